/-! the pure part: closing a month -/
variable {S S0 S1 S2 S' S'' S3 X : St} {ad : Nat → Nat} {b d j k : Nat} {v v0 v' v1 v2 u : Nat → Int64} {np nf no mo no' mo' : Nat}
def adV (u : Nat → Int64) (x : Int64) : Nat → Int64 := udt u 11 (u 11 + rtd x (u 7))
theorem K2_0 (c : CV S0 ad b v0 np nf no mo) (ws : WS v0 nf mo) (hm : mo < 60) {x : Int64} (K : K1 S0 ad b v0 np nf no mo nf S u x) : K2 S0 ad b v0 np nf no mo 0 (uJ S (ad (b + 38)) 0 (u 11 + rtd x (u 7))) (adV u x) := by
  obtain ⟨mk, k1, k2, k3, k4, k5, C, hC, eC⟩ := K
  have h8 := c.hf
  have cu := mk.cv c
  obtain ⟨t, ht, et⟩ := cu.w.1.2.2.2.1
  obtain ⟨a, ha, ea⟩ := ws.2
  have e11 : u 11 = lN a := (k5 11 (by omega)).trans ea
  have hCt : C * t ≤ 128000000 * 2000 := Nat.mul_le_mul (by omega) ht
  have er : u 11 + rtd x (u 7) = lN (a + (C * t + 5000) / 10000) := by rw [e11, eC, et, rtd_N (by omega), lN_add]
  have m2 := MKw_adm cu (g := a + (C * t + 5000) / 10000) (by omega)
  rw [← er] at m2
  have H : ∀ l, l ≠ 11 → adV u x l = u l := fun l hl => udt_n hl
  refine ⟨mk.trans m2, fun f q hf hq => ?_, fun f hf => by rw [H _ (by omega)]; exact k2 f hf, fun f hf => absurd hf (by omega), fun f hf => ?_, fun k hk => by rw [H _ (by omega)]; exact k5 k (Or.inl hk), a + (C * t + 5000) / 10000, by omega, ?_⟩
  · rw [H _ (by omega), gJ_n cu.t, if_neg (by omega)]; exact k1 f q hf hq
  · rw [H _ (by omega), H _ (by omega), H _ (by omega)]
    obtain ⟨q1, q2, q3⟩ := k4 f hf
    obtain ⟨g, hg, e⟩ := (ws.1 f hf).1
    exact ⟨q1, q2, g, by omega, fun _ => hg, q3.trans e⟩
  · unfold adV; rw [udt_e]; exact er
theorem K2_all (c : CV S0 ad b v0 np nf no mo) (hm : mo < 60) (K : K2 S0 ad b v0 np nf no mo 0 S u) : ∀ i, i ≤ nf → ∃ S', K2 S0 ad b v0 np nf no mo i S' (VB u mo i) := by
  intro i
  induction i with
  | zero => intro _; exact ⟨S, K⟩
  | succ i ih =>
    intro hi
    obtain ⟨S', K'⟩ := ih (by omega)
    obtain ⟨S'', -, K''⟩ := K2_s c hm (by omega) K'
    rw [VB_s]
    exact ⟨S'', K''⟩
def clsV (v0 : Nat → Int64) (nf no mo : Nat) : Nat → Int64 := enV (VB (adV (VA v0 nf no mo nf).1 (VA v0 nf no mo nf).2) mo nf) no mo
theorem K2_end (c : CV S0 ad b v0 np nf no mo) (hm : mo < 60) (K : K2 S0 ad b v0 np nf no mo nf S u) : MK S0 (enS S ad b mo) ad b v0 (enV u no mo) np nf no (mo + 1) := by
  obtain ⟨mk, k1, k2, k3, k4, k5, a, ha, ea⟩ := K
  have h8 := c.hf
  have h16 := c.ho
  have cu := mk.cv c
  have iv : INVm S ad b u nf mo := by
    refine ⟨fun f hf => ⟨(k2 f hf).trans (k3 f hf).symm, ?_⟩, k1⟩
    obtain ⟨N, hN, eN⟩ := sls_N c.w c.ho (nI f)
    exact ⟨N, by omega, (k2 f hf).trans eN⟩
  have m2 := mk.trans (MKw_end cu hm iv)
  have H : ∀ i, i ≠ 0 → ¬ (1150 ≤ i ∧ i < 1214) → ¬ (186 ≤ i ∧ i < 250) → enV u no mo i = u i := fun i h0 h1 h2 => by
    unfold enV
    rw [udt_n h0, zdV, if_neg h1, zsV, if_neg (by omega)]
  refine ⟨m2.1, m2.2.1, m2.2.2.1, m2.2.2.2.1, m2.2.2.2.2.1, m2.2.2.2.2.2.1, m2.2.2.2.2.2.2.1, m2.2.2.2.2.2.2.2.1, m2.2.2.2.2.2.2.2.2, fun m e hmm w => ⟨fun f hf => ?_, a, ha, by rw [H 11 (by omega) (by omega) (by omega)]; exact ea⟩⟩
  rw [H _ (by omega) (by omega) (by omega), H _ (by omega) (by omega) (by omega), H _ (by omega) (by omega) (by omega)]
  obtain ⟨q1, q2, g, hg, -, q5⟩ := k4 f hf
  exact ⟨⟨g, hg, q5⟩, q1, q2⟩
theorem C_close (c : CV S0 ad b v0 np nf no mo) (ws : WS v0 nf mo) (hm : mo < 60) : ∃ S', f_X1_close S0 (ad b) = some (1, S') ∧ MK S0 S' ad b v0 (clsV v0 nf no mo) np nf no (mo + 1) := by
  have h8 := c.hf
  have hb := c.hb
  unfold f_X1_close
  rw [lt_n, r_b0_5 c.t hb, C_openM c, cl_n, decide_eq_true hm, bI_t, if_neg (by decide)]
  have key : ∀ r : Option (Int32 × St), r = (lp (κ := Int64 → Int32 → St → Option (Int32 × St)) (fun _ _ _ => none) (fun k58 x55 x56 S57 => lt (gR S57 (ad b) 3) fun (a60 : Nat) => lt (gI S57 a60 8) fun (v62 : Int32) => if v62 ≤ x56 then ((fun (x4 : Int64) (S5 : St) => lt (gR S5 (ad b) 5) fun (a8 : Nat) => lt (gR S5 a8 5) fun (a10 : Nat) => ldJ S5 a10 0 fun (v12 : Int64) => lt (gR S5 (ad b) 0) fun (a13 : Nat) => lt (gI S5 a13 8) fun (v15 : Int32) => cl (f_X11_rateOf S5 x4 (Int32.toInt64 v15)) fun (v16 : Int64) => stJ S5 a10 0 (v12 + v16) fun (S17 : St) => jn (κ := St → Option (Int32 × St)) (fun S18 => lt (gR S18 (ad b) 2) fun (a21 : Nat) => lt (gR S18 a21 3) fun (a23 : Nat) => cl (f_J7_fill_d0a16 S18 a23 0) fun (S25 : St) => lt (gR S25 (ad b) 5) fun (a26 : Nat) => cl (f_X0_forgetDeliveries S25 a26) fun (S28 : St) => lt (gR S28 (ad b) 5) fun (a29 : Nat) => lt (gI S28 a29 6) fun (v31 : Int32) => lt (uI S28 a29 6 (v31 + 1)) fun (S32 : St) => some (1, S32)) fun k19 => lp (κ := Int32 → St → Option (Int32 × St)) (fun _ _ => none) (fun k35 x33 S34 => lt (gR S34 (ad b) 3) fun (a37 : Nat) => lt (gI S34 a37 8) fun (v39 : Int32) => if v39 ≤ x33 then (k19 S34) else (cl (f_X1_finishTransfer S34 (ad b) x33) fun (S40 : St) => lt (gR S40 (ad b) 5) fun (a41 : Nat) => lt (gR S40 (ad b) 3) fun (a43 : Nat) => lt (gR S40 a43 7) fun (a45 : Nat) => ldJ S40 a45 x33 fun (v47 : Int64) => cl (f_X0_enterBalance S40 a41 x33 v47) fun (S48 : St) => lt (gR S48 (ad b) 5) fun (a49 : Nat) => lt (gR S48 (ad b) 2) fun (a51 : Nat) => cl (f_X6_salesTogether S48 a51 x33) fun (v53 : Int64) => cl (f_X0_enterSales S48 a49 x33 v53) fun (S54 : St) => k35 (x33 + 1) S54)) FU 0 S17) x55 S57) else (lt (gR S57 (ad b) 2) fun (a63 : Nat) => cl (f_X6_salesTogether S57 a63 x56) fun (v65 : Int64) => cl (f_X1_calculate S57 (ad b) x56 v65) fun (S66 : St) => cl (f_X1_bill S66 (ad b) x56) fun (S67 : St) => lt (gR S67 (ad b) 6) fun (a68 : Nat) => ldJ S67 a68 1 fun (v70 : Int64) => lt (x55 + v70) fun (v71 : Int64) => k58 v71 (x56 + 1) S67)) FU 0 0 S0) → ∃ S', r = some (1, S') ∧ MK S0 S' ad b v0 (clsV v0 nf no mo) np nf no (mo + 1) := by
    rintro r rfl
    refine lp_ex (fun (k : Int64 → Int32 → St → Option (Int32 × St)) i (s : Int64 × St) => k s.1 (nI i) s.2) _ _ nf (fun i s => K1 S0 ad b v0 np nf no mo i s.2 (VA v0 nf no mo i).1 s.1 ∧ s.1 = (VA v0 nf no mo i).2) (fun r => ∃ S', r = some (1, S') ∧ MK S0 S' ad b v0 (clsV v0 nf no mo) np nf no (mo + 1)) ?_ ?_ nf FU 0 (0, S0) (by omega) ⟨K1_0 c, rfl⟩ (show nf < 6000 by omega)
    · rintro k i ⟨x, S⟩ hi ⟨K, hx⟩
      have cu := K.1.cv c
      obtain ⟨S', e, r7, K'⟩ := K1_s c ws hm hi K
      obtain ⟨Sa, ea, eb⟩ := cl_some e
      have c' := K'.1.cv c
      refine ⟨(x + am (VA v0 nf no mo i).1 nf i (sls (VA v0 nf no mo i).1 no (nI i) 100) 1, S'), ⟨by rw [VA_s]; exact K', by rw [VA_s]; exact congrArg (· + _) hx⟩, ?_⟩
      have h1 : ¬ nI nf ≤ nI i := by rw [nI_leI (by omega) (by omega)]; omega
      have l1 : ∀ {β : Type} (k : Int64 → Option β), ldJ S' (ad (b + 7)) 1 k = k (am (VA v0 nf no mo i).1 nf i (sls (VA v0 nf no mo i).1 no (nI i) 100) 1) := fun k => by rw [show (1 : Int32) = nI 1 from rfl, lb7 c'.t hb (by decide), r7]
      simp only [lt_n, r_b0_3 cu.t hb, cu.N.1, h1, if_false, r_b0_2 cu.t hb, C_together cu, cl_n, ea, eb, r_b0_6 c'.t hb, l1, nI_1]
    · rintro k ⟨x, S⟩ ⟨K, hx⟩
      have cu := K.1.cv c
      have h1 : nI nf ≤ nI nf := by rw [nI_leI (by omega) (by omega)]; omega
      have K20 := K2_0 c ws hm K
      have c2 := K20.1.cv c
      have e7 : (gI S (ad (b + 1)) 8).toInt64 = (VA v0 nf no mo nf).1 7 := (cu.T.2.2.2.2.1).symm
      show ∃ S', (lt (gR S (ad b) 3) fun (a60 : Nat) => lt (gI S a60 8) fun (v62 : Int32) => if v62 ≤ nI nf then _ else _) = some (1, S') ∧ _
      rw [lt_n, r_b0_3 cu.t hb, lt_n, cu.N.1, if_pos h1]
      show ∃ S', (lt (gR S (ad b) 5) fun (a8 : Nat) => _) = some (1, S') ∧ _
      simp only [lt_n, r_b0_5 cu.t hb, r_b6_5 cu.t hb, C_sp cu (q := 0) (n := 0) rfl (by decide), r_b0_0 cu.t hb, e7, C_rateOf, cl_n]
      have st38 : ∀ {β : Type} (y : Int64) (K : St → Option β), stJ S (ad (b + 38)) 0 y K = K (uJ S (ad (b + 38)) 0 y) := fun y K => by rw [← nI_0, sb38 cu.t hb (by decide)]
      rw [st38]
      rw [show (11 + 0) = 11 from rfl]
      have hx' : x = (VA v0 nf no mo nf).2 := hx
      have K20' : K2 S0 ad b v0 np nf no mo 0 (uJ S (ad (b + 38)) 0 ((VA v0 nf no mo nf).1 11 + rtd x ((VA v0 nf no mo nf).1 7))) (adV (VA v0 nf no mo nf).1 (VA v0 nf no mo nf).2) := by rw [← hx']; exact K20
      generalize uJ S (ad (b + 38)) 0 ((VA v0 nf no mo nf).1 11 + rtd x ((VA v0 nf no mo nf).1 7)) = S17 at K20' ⊢
      unfold clsV
      generalize adV (VA v0 nf no mo nf).1 (VA v0 nf no mo nf).2 = u2 at K20' ⊢
      rw [jn_n]
      refine lp_ex (fun (k : Int32 → St → Option (Int32 × St)) i (s : St) => k (nI i) s) _ _ nf (fun i s => K2 S0 ad b v0 np nf no mo i s (VB u2 mo i)) (fun r => ∃ S', r = some (1, S') ∧ MK S0 S' ad b v0 (enV (VB u2 mo nf) no mo) np nf no (mo + 1)) ?_ ?_ nf FU 0 S17 (by omega) K20' (show nf < 6000 by omega)
      · intro k i S hi K
        have cv := K.1.cv c
        obtain ⟨S', e, K'⟩ := K2_s c hm hi K
        refine ⟨S', by rw [VB_s]; exact K', ?_⟩
        have h1 : ¬ nI nf ≤ nI i := by rw [nI_leI (by omega) (by omega)]; omega
        have e2 := e (fun S54 => k (nI i + 1) S54)
        simp only [lt_n] at e2
        simp only [lt_n, r_b0_3 cv.t hb, cv.N.1, h1, if_false]
        rw [e2, nI_1]
      · intro k S K
        have cv := K.1.cv c
        have h1 : nI nf ≤ nI nf := by rw [nI_leI (by omega) (by omega)]; omega
        have mk := K2_end c hm K
        refine ⟨_, ?_, mk⟩
        have t1 : TR (flJ S (ad (b + 18)) 0 16) ad := TR_SR0 (SR0_flJ _ _ _ _) cv.t
        have t2 : TR (flJ (flJ S (ad (b + 18)) 0 16) (ad (b + 35)) 0 64) ad := TR_SR0 (SR0_flJ _ _ _ _) t1
        have g6 : gI (flJ (flJ S (ad (b + 18)) 0 16) (ad (b + 35)) 0 64) (ad (b + 6)) 6 = nI mo := by rw [gI_flJ, gI_flJ]; exact cv.B.1
        simp only [lt_n, r_b0_3 cv.t hb, cv.N.1, h1, if_true, r_b0_2 cv.t hb, r_b3_3 cv.t hb, fill_J S (ad (b + 18)) 0 (n_b18 cv.t hb) (by decide), cl_n, r_b0_5 t1 hb, f_X0_forgetDeliveries, r_b6_2 t1 hb, fill_J (flJ S (ad (b + 18)) 0 16) (ad (b + 35)) 0 (n_b35 t1 hb) (by decide), r_b0_5 t2 hb, g6, nI_1, enS]
  exact key _ (jn_n _ _)
