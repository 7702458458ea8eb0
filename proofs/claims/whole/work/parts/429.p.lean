/-! the pure part: votes -/
variable {S S1 S' S'' S3 : St} {ad : Nat → Nat} {b d j k : Nat} {v v' : Nat → Int64} {np nf no mo no' mo' : Nat}
theorem bcE (S : St) : ∀ i, i < 32 → f_J6_bitCount_0f7a4 S (nI i) = some (nI (pop5 i)) := by
  intro i hi
  have h : ∀ i, i < 32 → f_J6_bitCount_0f7a4 (fun _ _ => 0, fun _ _ => 0, fun _ _ => 0, fun _ => 0) (nI i) = some (nI (pop5 i)) := by decide
  exact h i hi
theorem vE1 : ∀ m, m < 5 → (1 : Int32) <<< (nI m &&& 31) = nI (2 ^ m) := by decide
theorem vE2 : ∀ m, m < 5 → (1 : Int64) <<< ((nI m).toInt64 &&& 63) = lN (2 ^ m) := by decide
theorem vE3 : ∀ w, w < 32 → ∀ m, m < 5 → ((nI w &&& nI (2 ^ m) = 0) ↔ w &&& 2 ^ m = 0) := by decide
theorem vE4 : ∀ w, w < 32 → ∀ m, m < 5 → (((lN w >>> ((nI m).toInt64 &&& 63)) &&& 1 = 1) ↔ ¬ w &&& 2 ^ m = 0) := by decide
theorem vE5 : ∀ w, w < 32 → ∀ m, m < 5 → w &&& 2 ^ m = 0 → w ||| 2 ^ m < 32 ∧ w ||| 2 ^ m = w + 2 ^ m ∧ pop5 (w ||| 2 ^ m) = pop5 w + 1 := by decide
theorem vE6 : ∀ i, i < 32 → ∀ j, j < 32 → nI i ||| nI j = nI (i ||| j) ∧ i ||| j < 32 := by decide
theorem vE7 : ∀ m, m < 5 → 2 ^ m < 32 := by decide
theorem or_and0 {i j q : Nat} (h : (i ||| j) &&& q = 0) : i &&& q = 0 ∧ j &&& q = 0 := by
  rw [Nat.and_comm, Nat.and_or_distrib_left, Nat.or_eq_zero_iff] at h
  rw [Nat.and_comm i, Nat.and_comm j]
  exact h
theorem MK_vote (c : CV S ad b v np nf no mo) {f : Nat} (hf : f < nf) (hst : opn v f = true) (hc : Ch S S1 ad (fun p => ∃ q, (q = 27 ∨ q = 31 ∨ q = 32) ∧ p = b + q)) (hg : ∀ g q, g ≠ f → (q = 27 ∨ q = 31 ∨ q = 32) → gI S1 (ad (b + q)) g = gI S (ad (b + q)) g) (hv : ∀ i, ¬ (i = 58 + 16 * f + 9 ∨ i = 58 + 16 * f + 13 ∨ i = 58 + 16 * f + 14 ∨ i = 58 + 16 * f + 15) → v' i = v i) (h9 : v' (58 + 16 * f + 9) = (gI S1 (ad (b + 27)) f).toInt64) (hV : gI S1 (ad (b + 27)) f = 1 → VOT (gI S1 (ad (b + 31)) f) (gI S1 (ad (b + 32)) f) (v' (58 + 16 * f + 13)) (v' (58 + 16 * f + 14)) (v' (58 + 16 * f + 15))) : MK S S1 ad b v v' np nf no mo := by
  have h8 := c.hf
  have A : ∀ q, ¬ (q = 27 ∨ q = 31 ∨ q = 32) → Ag S S1 ad (b + q) ∨ b + q = 1 := fun q hq => by
    by_cases e : b + q = 1
    · exact Or.inr e
    · exact Or.inl (hc.2.1 _ e (by rintro ⟨q', hq', e⟩; omega))
  have hb := c.2.1
  have A2 : ∀ q, ¬ (q = 27 ∨ q = 31 ∨ q = 32) → Ag S S1 ad (b + q) := fun q hq => (A q hq).elim id (fun e => by omega)
  refine MK_F2 c (hc.mono (fun p ⟨q, hq, e⟩ => ⟨q, by omega, e⟩)) (fun i hi => hv i (by omega)) (fun g q hg hq => hv _ (by omega)) ?_ (fun g hgn => ?_)
  · exact AXF_w (fun g q hg hq => hv _ (by omega)) (AXF_c (fun q hq => A2 q (by omega)) c.F)
  · have a := c.R g hgn
    rw [hv (58 + 16 * g + 10) (by omega), hv (58 + 16 * g + 11) (by omega), hv (58 + 16 * g + 12) (by omega), (A2 28 (by decide) g).1, (A2 29 (by decide) g).1, (A2 30 (by decide) g).2]
    by_cases e : g = f
    · subst e
      exact ⟨h9, fun _ => a.2.1 ((opn_iff c hf).mp hst), hV⟩
    · rw [hv (58 + 16 * g + 9) (by omega), hv (58 + 16 * g + 13) (by omega), hv (58 + 16 * g + 14) (by omega), hv (58 + 16 * g + 15) (by omega), hg g 27 e (by omega), hg g 31 e (by omega), hg g 32 e (by omega)]
      exact a
def vtA (v : Nat → Int64) (f m q : Nat) : Nat → Int64 := udt (udt v (58 + 16 * f + 13) (v (58 + 16 * f + 13) + lN (2 ^ m))) (58 + 16 * f + q) (v (58 + 16 * f + q) + 1)
/-- a vote: -1 or the new state, with the states after it -/
theorem C_voteW (c : CV S ad b v np nf no mo) {f m : Nat} (hf : f < nf) (hm : m < 5) (y : Int32) : ∃ w S1 v', (w = -1 ∨ ¬ w < 0) ∧ f_X10_addVote S (ad (b + 5)) (nI f) (nI m) y = some (w, S1) ∧ MK S S1 ad b v v' np nf no mo ∧ ∀ S', Mv S' ad v np nf no mo → vin (nI f) nf = true → ∃ S3, f_X12_vote S' (ad 1) (nI f) (nI m) y = some (w, S3) ∧ RK S' S3 ad v' := by
  have h8 := c.hf
  have f8 : f < 8 := by omega
  have hb := c.hb
  have t0 := c.t
  have e6 : (decide ((0 : Int64) ≤ (nI m).toInt64) && decide ((nI m).toInt64 ≤ 4)) = true := (rng_vin (nI m) (n := 5) (by decide)).trans (vin_nI hm (by decide))
  by_cases hst : gI S (ad (b + 27)) f = 1
  · obtain ⟨i, j, hi, hj, ey, en, hij, e13, e14, e15, pi, pj⟩ := (c.R f hf).2.2 hst
    have e9 : v (58 + 16 * f + 9) = 1 := by rw [(c.R f hf).1, hst]; rfl
    have ho : opn v f = true := by simp [opn, e9]
    have hw := (vE6 i hi j hj)
    by_cases hq : (i ||| j) &&& 2 ^ m = 0
    · obtain ⟨qi, qj⟩ := or_and0 hq
      have hT : (nI i ||| nI j) &&& nI (2 ^ m) = 0 := by rw [hw.1]; exact (vE3 _ hw.2 m hm).mpr hq
      have hR : ¬ ((lN (i ||| j) >>> ((nI m).toInt64 &&& 63)) &&& 1 = 1) := fun e => (vE4 _ hw.2 m hm).mp e hq
      obtain ⟨oi1, oi2, oi3⟩ := vE5 i hi m hm qi
      obtain ⟨oj1, oj2, oj3⟩ := vE5 j hj m hm qj
      obtain ⟨ow1, ow2, ow3⟩ := vE5 (i ||| j) hw.2 m hm hq
      have ei := (vE6 i hi (2 ^ m) (vE7 m hm)).1
      have ej := (vE6 j hj (2 ^ m) (vE7 m hm)).1
      have n1 : ∀ x y, x ≠ y → ¬ (b + x = b + y) := fun x y h => by omega
      by_cases hy : y = 0
      · have c31 : TR (uI S (ad (b + 32)) f (nI (j ||| 2 ^ m))) ad := TR_SR0 (SR0_uI _ _ _ _) t0
        have g31 : gI (uI S (ad (b + 32)) f (nI (j ||| 2 ^ m))) (ad (b + 31)) f = nI i := by rw [gI_i t0.1]; simp [ey]
        have g32 : gI (uI S (ad (b + 32)) f (nI (j ||| 2 ^ m))) (ad (b + 32)) f = nI (j ||| 2 ^ m) := by rw [gI_i t0.1]; simp [en]
        have g27 : gI (uI S (ad (b + 32)) f (nI (j ||| 2 ^ m))) (ad (b + 27)) f = 1 := by rw [gI_i t0.1, if_neg (by omega)]; exact hst
        have a9 : vtA v f m 15 (58 + 16 * f + 9) = 1 := by unfold vtA; rw [udt_n (by omega), udt_n (by omega)]; exact e9
        have a13 : vtA v f m 15 (58 + 16 * f + 13) = lN ((i ||| j) + 2 ^ m) := by unfold vtA; rw [udt_n (by omega), udt_e, e13, lN_add]
        have a15 : vtA v f m 15 (58 + 16 * f + 15) = lN (pop5 j + 1) := by unfold vtA; rw [udt_e, e15, lN_1]
        have a14 : vtA v f m 15 (58 + 16 * f + 14) = lN (pop5 i) := by unfold vtA; rw [udt_n (by omega), udt_n (by omega)]; exact e14
        have aN : ∀ l, ¬ (l = 58 + 16 * f + 9 ∨ l = 58 + 16 * f + 13 ∨ l = 58 + 16 * f + 14 ∨ l = 58 + 16 * f + 15) → vtA v f m 15 l = v l := fun l hl => by unfold vtA; rw [udt_n (by omega), udt_n (by omega)]
        have b1 : (nI (pop5 i) < 3) := by rw [show (3 : Int32) = nI 3 from rfl, nI_ltI (by omega) (by decide)]; omega
        have b2 : ¬ (lN (pop5 i) = 3) := by rw [show (3 : Int64) = lN 3 from rfl, lN_eq (by omega) (by decide)]; omega
        have hM : ∀ S', Mv S' ad v np nf no mo → Mv (uJ (uJ (uI S' (ad 1) 2 0) (ad 3) (58 + 16 * f + 13) (v (58 + 16 * f + 13) + lN (2 ^ m))) (ad 3) (58 + 16 * f + 15) (v (58 + 16 * f + 15) + 1)) ad (vtA v f m 15) np nf no mo := fun S' h => Mv_3 (Mv_3 (Mv_t h (ad 1) 2 0) (by omega)) (by omega)
        have eu : udt v (58 + 16 * f + 13) (v (58 + 16 * f + 13) + lN (2 ^ m)) (58 + 16 * f + 15) = v (58 + 16 * f + 15) := udt_n (by omega)
        by_cases hr : pop5 j + 1 < 3
        · have b3 : (nI (pop5 j + 1) < 3) := by rw [show (3 : Int32) = nI 3 from rfl, nI_ltI (by omega) (by decide)]; omega
          have b4 : ¬ (lN (pop5 j + 1) = 3) := by rw [show (3 : Int64) = lN 3 from rfl, lN_eq (by omega) (by decide)]; omega
          refine ⟨1, uI S (ad (b + 32)) f (nI (j ||| 2 ^ m)), vtA v f m 15, Or.inr (by decide), ?_, MK_vote c hf ho (Ch_uI t0 (by omega) ⟨32, by omega, rfl⟩) (fun g q hg hq => by rw [gI_i t0.1, if_neg (by omega)]) aN (by rw [a9, g27]; rfl) (fun _ => ?_), fun S' h hB => ⟨_, ?_, RK_3 (RK_3 (RK.rf h) h.1) h.1⟩⟩
          · simp only [f_X10_addVote, lt_e, jn_n, vE1 m hm, r_b5_4 t0 hb, lb31 t0 hb f8, r_b5_5 t0 hb, lb32 t0 hb f8, ey, en, ej, hT, if_true, r_b5_0 t0 hb, lb27 t0 hb f8, hst, hy, if_true, sb32 t0 hb f8, r_b5_4 c31 hb, lb31 c31 hb f8, g31, r_b5_5 c31 hb, lb32 c31 hb f8, g32, bcE _ _ hi, bcE _ _ oj1, oj3, cl_n, b1, b3, r_b5_0 c31 hb, lb27 c31 hb f8, g27]
          · rw [g31, g32, a13, a14, a15]
            refine ⟨i, j ||| 2 ^ m, hi, oj1, rfl, rfl, ?_, ?_, ?_, ?_, pi, by omega⟩
            · rw [Nat.and_or_distrib_left, hij, qi]; rfl
            · rw [← Nat.or_assoc, ow2]
            · rfl
            · rw [oj3]
          · have h1 := Mv_t h (ad 1) 2 0
            have h2 := Mv_3 h1 (k := 58 + 16 * f + 13) (w := v (58 + 16 * f + 13) + lN (2 ^ m)) (by omega)
            have h3 := hM S' h
            simp only [f_X12_vote, lt_e, M_isFr h1, cl_s, jn_n, if_bI, hB, M_inRange, e6, M_throws0, if_true, M_of9 h1 f8, e9, M_of13 h1 f8, e13, hR, if_false, vE2 m hm, M_add h1 f8 (q := 13) (i := 13) (by decide) rfl, hy, if_true]
            rw [← e13, M_add h2 f8 (q := 15) (i := 15) (by decide) rfl, eu]
            simp only [cl_s, M_of14 h3 f8, M_of15 h3 f8, a14, a15, b2, b4, if_false, M_of9 h3 f8, a9]
            rfl
        · have b3 : ¬ (nI (pop5 j + 1) < 3) := by rw [show (3 : Int32) = nI 3 from rfl, nI_ltI (by omega) (by decide)]; omega
          have b4 : (lN (pop5 j + 1) = 3) := by rw [show (3 : Int64) = lN 3 from rfl, lN_eq (by omega) (by decide)]; omega
          have c27 : TR (uI (uI S (ad (b + 32)) f (nI (j ||| 2 ^ m))) (ad (b + 27)) f 3) ad := TR_SR0 (SR0_uI _ _ _ _) c31
          have k27 : gI (uI (uI S (ad (b + 32)) f (nI (j ||| 2 ^ m))) (ad (b + 27)) f 3) (ad (b + 27)) f = 3 := by rw [gI_i t0.1, if_pos ⟨rfl, rfl⟩]
          refine ⟨3, uI (uI S (ad (b + 32)) f (nI (j ||| 2 ^ m))) (ad (b + 27)) f 3, udt (vtA v f m 15) (58 + 16 * f + 9) 3, Or.inr (by decide), ?_, MK_vote c hf ho ((Ch_uI t0 (by omega) ⟨32, by omega, rfl⟩).tr (Ch_uI c31 (by omega) ⟨27, by omega, rfl⟩)) (fun g q hg hq => by rw [gI_i t0.1, if_neg (by omega), gI_i t0.1, if_neg (by omega)]) (fun l hl => by rw [udt_n (by omega)]; exact aN l hl) (by rw [udt_e, k27]; rfl) (fun e => absurd (k27.symm.trans e) (by decide)), fun S' h hB => ⟨_, ?_, RK_3 (RK_3 (RK_3 (RK.rf h) h.1) h.1) h.1⟩⟩
          · simp only [f_X10_addVote, lt_e, jn_n, vE1 m hm, r_b5_4 t0 hb, lb31 t0 hb f8, r_b5_5 t0 hb, lb32 t0 hb f8, ey, en, ej, hT, if_true, r_b5_0 t0 hb, lb27 t0 hb f8, hst, hy, if_true, sb32 t0 hb f8, r_b5_4 c31 hb, lb31 c31 hb f8, g31, r_b5_5 c31 hb, lb32 c31 hb f8, g32, bcE _ _ hi, bcE _ _ oj1, oj3, cl_n, b1, b3, if_false, r_b5_0 c31 hb, sb27 c31 hb f8, r_b5_0 c27 hb, lb27 c27 hb f8, k27]
          · have h1 := Mv_t h (ad 1) 2 0
            have h2 := Mv_3 h1 (k := 58 + 16 * f + 13) (w := v (58 + 16 * f + 13) + lN (2 ^ m)) (by omega)
            have h3 := hM S' h
            have h4 := Mv_3 h3 (k := 58 + 16 * f + 9) (w := 3) (by omega)
            have x15 : udt (vtA v f m 15) (58 + 16 * f + 9) 3 (58 + 16 * f + 15) = vtA v f m 15 (58 + 16 * f + 15) := udt_n (by omega)
            simp only [f_X12_vote, lt_e, M_isFr h1, cl_s, jn_n, if_bI, hB, M_inRange, e6, M_throws0, if_true, M_of9 h1 f8, e9, M_of13 h1 f8, e13, hR, if_false, vE2 m hm, M_add h1 f8 (q := 13) (i := 13) (by decide) rfl, hy, if_true]
            rw [← e13, M_add h2 f8 (q := 15) (i := 15) (by decide) rfl, eu]
            simp only [cl_s, M_of14 h3 f8, M_of15 h3 f8, a14, a15, b2, b4, if_false, if_true, M_set h3 f8 (q := 9) (i := 9) (by decide) rfl, M_of15 h4 f8, x15, M_of9 h4 f8, udt_e]
            rfl
      · have c31 : TR (uI S (ad (b + 31)) f (nI (i ||| 2 ^ m))) ad := TR_SR0 (SR0_uI _ _ _ _) t0
        have g31 : gI (uI S (ad (b + 31)) f (nI (i ||| 2 ^ m))) (ad (b + 31)) f = nI (i ||| 2 ^ m) := by rw [gI_i t0.1]; simp [ey]
        have g32 : gI (uI S (ad (b + 31)) f (nI (i ||| 2 ^ m))) (ad (b + 32)) f = nI j := by rw [gI_i t0.1]; simp [en]
        have g27 : gI (uI S (ad (b + 31)) f (nI (i ||| 2 ^ m))) (ad (b + 27)) f = 1 := by rw [gI_i t0.1, if_neg (by omega)]; exact hst
        have a9 : vtA v f m 14 (58 + 16 * f + 9) = 1 := by unfold vtA; rw [udt_n (by omega), udt_n (by omega)]; exact e9
        have a13 : vtA v f m 14 (58 + 16 * f + 13) = lN ((i ||| j) + 2 ^ m) := by unfold vtA; rw [udt_n (by omega), udt_e, e13, lN_add]
        have a14 : vtA v f m 14 (58 + 16 * f + 14) = lN (pop5 i + 1) := by unfold vtA; rw [udt_e, e14, lN_1]
        have a15 : vtA v f m 14 (58 + 16 * f + 15) = lN (pop5 j) := by unfold vtA; rw [udt_n (by omega), udt_n (by omega)]; exact e15
        have aN : ∀ l, ¬ (l = 58 + 16 * f + 9 ∨ l = 58 + 16 * f + 13 ∨ l = 58 + 16 * f + 14 ∨ l = 58 + 16 * f + 15) → vtA v f m 14 l = v l := fun l hl => by unfold vtA; rw [udt_n (by omega), udt_n (by omega)]
        have b1 : (nI (pop5 j) < 3) := by rw [show (3 : Int32) = nI 3 from rfl, nI_ltI (by omega) (by decide)]; omega
        have b2 : ¬ (lN (pop5 j) = 3) := by rw [show (3 : Int64) = lN 3 from rfl, lN_eq (by omega) (by decide)]; omega
        have hM : ∀ S', Mv S' ad v np nf no mo → Mv (uJ (uJ (uI S' (ad 1) 2 0) (ad 3) (58 + 16 * f + 13) (v (58 + 16 * f + 13) + lN (2 ^ m))) (ad 3) (58 + 16 * f + 14) (v (58 + 16 * f + 14) + 1)) ad (vtA v f m 14) np nf no mo := fun S' h => Mv_3 (Mv_3 (Mv_t h (ad 1) 2 0) (by omega)) (by omega)
        have eu : udt v (58 + 16 * f + 13) (v (58 + 16 * f + 13) + lN (2 ^ m)) (58 + 16 * f + 14) = v (58 + 16 * f + 14) := udt_n (by omega)
        by_cases hr : pop5 i + 1 < 3
        · have b3 : (nI (pop5 i + 1) < 3) := by rw [show (3 : Int32) = nI 3 from rfl, nI_ltI (by omega) (by decide)]; omega
          have b4 : ¬ (lN (pop5 i + 1) = 3) := by rw [show (3 : Int64) = lN 3 from rfl, lN_eq (by omega) (by decide)]; omega
          refine ⟨1, uI S (ad (b + 31)) f (nI (i ||| 2 ^ m)), vtA v f m 14, Or.inr (by decide), ?_, MK_vote c hf ho (Ch_uI t0 (by omega) ⟨31, by omega, rfl⟩) (fun g q hg hq => by rw [gI_i t0.1, if_neg (by omega)]) aN (by rw [a9, g27]; rfl) (fun _ => ?_), fun S' h hB => ⟨_, ?_, RK_3 (RK_3 (RK.rf h) h.1) h.1⟩⟩
          · simp only [f_X10_addVote, lt_e, jn_n, vE1 m hm, r_b5_4 t0 hb, lb31 t0 hb f8, r_b5_5 t0 hb, lb32 t0 hb f8, ey, en, ei, hT, if_true, r_b5_0 t0 hb, lb27 t0 hb f8, hst, hy, if_false, sb31 t0 hb f8, r_b5_4 c31 hb, lb31 c31 hb f8, g31, r_b5_5 c31 hb, lb32 c31 hb f8, g32, bcE _ _ oi1, bcE _ _ hj, oi3, cl_n, b1, b3, r_b5_0 c31 hb, lb27 c31 hb f8, g27]
          · rw [g31, g32, a13, a14, a15]
            refine ⟨i ||| 2 ^ m, j, oi1, hj, rfl, rfl, ?_, ?_, ?_, ?_, by omega, pj⟩
            · rw [Nat.and_comm, Nat.and_or_distrib_left, Nat.and_comm j i, hij, qj]; rfl
            · rw [Nat.or_assoc, Nat.or_comm (2 ^ m) j, ← Nat.or_assoc, ow2]
            · rw [oi3]
            · rfl
          · have h1 := Mv_t h (ad 1) 2 0
            have h2 := Mv_3 h1 (k := 58 + 16 * f + 13) (w := v (58 + 16 * f + 13) + lN (2 ^ m)) (by omega)
            have h3 := hM S' h
            simp only [f_X12_vote, lt_e, M_isFr h1, cl_s, jn_n, if_bI, hB, M_inRange, e6, M_throws0, if_true, M_of9 h1 f8, e9, M_of13 h1 f8, e13, hR, if_false, vE2 m hm, M_add h1 f8 (q := 13) (i := 13) (by decide) rfl, hy, if_false]
            rw [← e13, M_add h2 f8 (q := 14) (i := 14) (by decide) rfl, eu]
            simp only [cl_s, M_of14 h3 f8, M_of15 h3 f8, a14, a15, b2, b4, if_false, M_of9 h3 f8, a9]
            rfl
        · have b3 : ¬ (nI (pop5 i + 1) < 3) := by rw [show (3 : Int32) = nI 3 from rfl, nI_ltI (by omega) (by decide)]; omega
          have b4 : (lN (pop5 i + 1) = 3) := by rw [show (3 : Int64) = lN 3 from rfl, lN_eq (by omega) (by decide)]; omega
          have c27 : TR (uI (uI S (ad (b + 31)) f (nI (i ||| 2 ^ m))) (ad (b + 27)) f 2) ad := TR_SR0 (SR0_uI _ _ _ _) c31
          have k27 : gI (uI (uI S (ad (b + 31)) f (nI (i ||| 2 ^ m))) (ad (b + 27)) f 2) (ad (b + 27)) f = 2 := by rw [gI_i t0.1, if_pos ⟨rfl, rfl⟩]
          refine ⟨2, uI (uI S (ad (b + 31)) f (nI (i ||| 2 ^ m))) (ad (b + 27)) f 2, udt (vtA v f m 14) (58 + 16 * f + 9) 2, Or.inr (by decide), ?_, MK_vote c hf ho ((Ch_uI t0 (by omega) ⟨31, by omega, rfl⟩).tr (Ch_uI c31 (by omega) ⟨27, by omega, rfl⟩)) (fun g q hg hq => by rw [gI_i t0.1, if_neg (by omega), gI_i t0.1, if_neg (by omega)]) (fun l hl => by rw [udt_n (by omega)]; exact aN l hl) (by rw [udt_e, k27]; rfl) (fun e => absurd (k27.symm.trans e) (by decide)), fun S' h hB => ⟨_, ?_, RK_3 (RK_3 (RK_3 (RK.rf h) h.1) h.1) h.1⟩⟩
          · simp only [f_X10_addVote, lt_e, jn_n, vE1 m hm, r_b5_4 t0 hb, lb31 t0 hb f8, r_b5_5 t0 hb, lb32 t0 hb f8, ey, en, ei, hT, if_true, r_b5_0 t0 hb, lb27 t0 hb f8, hst, hy, if_false, sb31 t0 hb f8, r_b5_4 c31 hb, lb31 c31 hb f8, g31, r_b5_5 c31 hb, lb32 c31 hb f8, g32, bcE _ _ oi1, bcE _ _ hj, oi3, cl_n, b3, if_false, r_b5_0 c31 hb, sb27 c31 hb f8, r_b5_0 c27 hb, lb27 c27 hb f8, k27]
          · have h1 := Mv_t h (ad 1) 2 0
            have h2 := Mv_3 h1 (k := 58 + 16 * f + 13) (w := v (58 + 16 * f + 13) + lN (2 ^ m)) (by omega)
            have h3 := hM S' h
            have h4 := Mv_3 h3 (k := 58 + 16 * f + 9) (w := 2) (by omega)
            have x15 : udt (vtA v f m 14) (58 + 16 * f + 9) 2 (58 + 16 * f + 15) = vtA v f m 14 (58 + 16 * f + 15) := udt_n (by omega)
            simp only [f_X12_vote, lt_e, M_isFr h1, cl_s, jn_n, if_bI, hB, M_inRange, e6, M_throws0, if_true, M_of9 h1 f8, e9, M_of13 h1 f8, e13, hR, if_false, vE2 m hm, M_add h1 f8 (q := 13) (i := 13) (by decide) rfl, hy, if_false]
            rw [← e13, M_add h2 f8 (q := 14) (i := 14) (by decide) rfl, eu]
            simp only [cl_s, M_of14 h3 f8, M_of15 h3 f8, a14, a15, b2, b4, if_false, if_true, M_set h3 f8 (q := 9) (i := 9) (by decide) rfl, M_of15 h4 f8, x15, M_of9 h4 f8, udt_e]
            rfl
    · refine ⟨-1, S, v, Or.inl rfl, ?_, MK.rf c, fun S' h hB => ⟨_, ?_, RK.rf h⟩⟩
      · have hT : ¬ (nI i ||| nI j) &&& nI (2 ^ m) = 0 := by rw [hw.1]; exact fun e => hq ((vE3 _ hw.2 m hm).mp e)
        simp only [f_X10_addVote, lt_e, jn_n, vE1 m hm, r_b5_4 t0 hb, lb31 t0 hb f8, r_b5_5 t0 hb, lb32 t0 hb f8, ey, en, hT, if_false, r_b5_0 t0 hb, lb27 t0 hb f8, hst, if_true, i10]
      · have h1 := Mv_t h (ad 1) 2 0
        have hR : (lN (i ||| j) >>> ((nI m).toInt64 &&& 63)) &&& 1 = 1 := (vE4 _ hw.2 m hm).mpr hq
        simp only [f_X12_vote, lt_e, M_isFr h1, cl_s, jn_n, if_bI, hB, M_inRange, e6, M_throws0, if_true, M_of9 h1 f8, e9, M_of13 h1 f8, e13, hR]
  · refine ⟨-1, S, v, Or.inl rfl, ?_, MK.rf c, fun S' h hB => ⟨_, ?_, RK.rf h⟩⟩
    · simp only [f_X10_addVote, lt_e, jn_n, vE1 m hm, r_b5_4 t0 hb, lb31 t0 hb f8, r_b5_5 t0 hb, lb32 t0 hb f8, r_b5_0 t0 hb, lb27 t0 hb f8, hst, if_false]
      by_cases hz : (gI S (ad (b + 31)) f ||| gI S (ad (b + 32)) f) &&& nI (2 ^ m) = 0 <;> simp only [hz, if_true, if_false]
    · have h1 := Mv_t h (ad 1) 2 0
      have e9 : ¬ v (58 + 16 * f + 9) = 1 := by rw [(c.R f hf).1, show (1 : Int64) = (1 : Int32).toInt64 from rfl, tl_eq]; exact hst
      simp only [f_X12_vote, lt_e, M_isFr h1, cl_s, jn_n, if_bI, hB, M_inRange, e6, M_throws0, if_true, M_of9 h1 f8, e9, if_false]
theorem C_vote (c : CV S ad b v np nf no mo) {f m : Nat} (hf : f < nf) (hm : m < 5) (y : Int32) : ∃ w S1 v', f_X10_addVote S (ad (b + 5)) (nI f) (nI m) y = some (w, S1) ∧ MK S S1 ad b v v' np nf no mo ∧ ∀ S', Mv S' ad v np nf no mo → vin (nI f) nf = true → ∃ S3, f_X12_vote S' (ad 1) (nI f) (nI m) y = some (w, S3) ∧ RK S' S3 ad v' := by
  obtain ⟨w, S1, v', -, h⟩ := C_voteW c hf hm y
  exact ⟨w, S1, v', h⟩
theorem Q_vote (c : CV S ad b v np nf no mo) (p q y : Int32) : QM S ad b v np nf no mo [(1, 1), (2, 2)] (f_X11_vote S (ad 0) p q y) (fun S' => f_X12_vote S' (ad 1) p q y) := by
  have hf8 := c.hf
  have e5 : ∀ {α : Type} (x y : α), (if q < 0 then x else if 5 ≤ q then x else y) = if vin q 5 then y else x := fun x y => vin_cases q (n := 5) (by decide) x y
  have e6 : (decide ((0 : Int64) ≤ q.toInt64) && decide (q.toInt64 ≤ 4)) = vin q 5 := rng_vin q (n := 5) (by decide)
  cases hB : vin p nf
  · refine Or.inr ⟨1, 1, by simp, by simp [f_X11_vote, C_reqF c, hB, clx_r], fun S' h => ⟨0, ?_⟩⟩
    simp [f_X12_vote, lt_e, M_isFr (Mv_t h (ad 1) 2 0), cl_s, jn_n, if_bI, hB, M_throws1, uI_uI]
  · cases hC : vin q 5
    · refine Or.inr ⟨2, 2, by simp, by simp only [f_X11_vote, C_reqF c, hB, if_true, clx_l, jn_n, e5, hC, C_reqA0, clx_r]; rfl, fun S' h => ⟨0, ?_⟩⟩
      simp only [f_X12_vote, lt_e, M_isFr (Mv_t h (ad 1) 2 0), cl_s, jn_n, if_bI, hB, M_inRange, e6, hC, M_throws0, M_throws1, uI_uI]
      rfl
    · obtain ⟨f, hf, rfl⟩ := vin_of (by omega) hB
      obtain ⟨m, hm, rfl⟩ := vin_of (by decide) hC
      obtain ⟨w, S1, v', hx, mk, hy⟩ := C_vote c hf hm y
      refine Or.inl ⟨w, S1, v', no, mo, ?_, mk, fun S' h => hy S' h hB⟩
      simp only [f_X11_vote, C_reqF c, hB, if_true, clx_l, jn_n, e5, hC, C_reqA1, lt_e, c.r, r_b0_4 c.t c.hb, hx, cl_s]
