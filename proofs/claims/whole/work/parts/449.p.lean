/-! the pure part: saving -/
variable {S S0 S1 S2 S' S'' S3 X : St} {ad : Nat → Nat} {b d j k : Nat} {v v0 v' v1 v2 u w : Nat → Int64} {np nf no mo no' mo' x y : Nat}
theorem AXs_v (h : ∀ i, i < 5054 → v' i = v i) (h8 : nf ≤ 8) (h16 : no ≤ 16) (hm : mo ≤ 60) (a : AXs S ad b v nf no mo) : AXs S ad b v' nf no mo :=
  ⟨AXG_w (fun i hi => h i (by omega)) a.1, AXO_w (fun i hi => h i (by omega)) h16 a.2.1, AXF_w (fun f q hf hq => h _ (by omega)) a.2.2.1, AXR_w (fun f q hf hq => h _ (by omega)) a.2.2.2.1, AXB_w (fun i hi => h i (by omega)) (fun f q hf hq => h _ (by omega)) h8 hm a.2.2.2.2⟩
theorem WF_v (h : ∀ i, i < 5054 → v' i = v i) (h4 : np ≤ 4) (h8 : nf ≤ 8) (h16 : no ≤ 16) (hm : mo ≤ 60) (w : WF v np nf no mo) : WF v' np nf no mo :=
  WF_w (fun i hi => h i (by omega)) (fun f q hf hq => h _ (by omega)) (fun i hi => h _ (by omega)) h4 h8 h16 hm w
theorem CV_v (h : ∀ i, i < 5054 → v' i = v i) (c : CV S ad b v np nf no mo) : CV S ad b v' np nf no mo := by
  have h4 := c.hp
  have h8 := c.hf
  have a := AXs_v h c.hf c.ho c.hm ⟨c.G, c.O, c.F, c.R, c.B⟩
  exact ⟨⟨c.t, trivial, by rw [h 1 (by decide)]; exact c.m.2.2.1, by rw [h 2 (by decide)]; exact c.m.2.2.2.1, by rw [h 3 (by decide)]; exact c.m.2.2.2.2.1, by rw [h 0 (by decide)]; exact c.m.2.2.2.2.2.1, c.hp, c.hf, c.ho, c.hm⟩, c.2.1, c.r, WF_v h c.hp c.hf c.ho c.hm c.w, AXT_w (fun i hi => h i (by omega)) c.hp c.T, a.1, a.2.1, AXN_w (fun f hf => h _ (by omega)) c.N, a.2.2.1, a.2.2.2.1, a.2.2.2.2⟩
theorem W_59 : StpW ad f_law_59 := by
  intro Ls xs S c i ⟨b, d, j, k, v, np, nf, no, mo, r⟩ hi hL hc
  have cv := r.1
  have t := cv.t
  have hb := cv.2.1
  have h8 := cv.hf
  have jb := r.jb
  unfold JBB at jb
  have s1 : ∀ (β : Type) (k : Int32 → Option β), sx Ls xs (nI i + 1) k = k (xs (i + 1)) := fun β k => by rw [da1, sx_at hL (by omega)]
  generalize xs (i + 1) = p at s1
  have e6 : (decide ((0 : Int64) ≤ p.toInt64) && decide (p.toInt64 ≤ 1)) = vin p 2 := rng_vin p (n := 2) (by decide)
  have ec : ∀ {α : Type} (x y : α), (if p < 0 then x else if p < 2 then y else x) = if vin p 2 then y else x := fun x y => vin_cases2 p (n := 2) (by decide) x y
  cases hv : vin p 2
  · refine ⟨_, c, REL_t r 0, by omega, fun kont => ?_⟩
    simp only [f_law_59, s1, f_X11_saveSnapshot, ec, hv, Bool.false_eq_true, if_false, cl_n, f_X12_saveSnapshot, lt_n, M_inRange, e6, if_bI, if_true]
  · obtain ⟨s, hs, rfl⟩ := vin_of (by decide) hv
    have hf : FarN b (120 + 40 * s) := by unfold FarN; omega
    have hB2 : BB (120 + 40 * s) := by unfold BB; omega
    have hB1 := cv.hb
    have nb : vp_nar .boolean 1 = 1 := by decide
    have tc : TR (cpBz ad b (120 + 40 * s) mo S) ad := TR_SR0 (SR0_cpz S) t
    have st21 : ∀ {β : Type} (K : St → Option β), stI (cpBz ad b (120 + 40 * s) mo S) (ad 21) (nI s) (vp_nar .boolean 1) K = K (uI (cpBz ad b (120 + 40 * s) mo S) (ad 21) s 1) := fun K => by
      rw [nb, stI_at (by rw [n_21 tc]; exact hs) (by rw [n_21 tc]; decide)]
    generalize hS2 : uI (cpBz ad b (120 + 40 * s) mo S) (ad 21) s 1 = S2 at st21
    have sr2 : SR0 S S2 := by rw [← hS2]; exact (SR0_cpz S).trans (SR0_uI _ _ _ _)
    have t2 : TR S2 ad := TR_SR0 sr2 t
    have rI2 : ∀ q l, gI S2 (ad q) l = if q = 21 ∧ l = s then 1 else gI (cpBz ad b (120 + 40 * s) mo S) (ad q) l := fun q l => by rw [← hS2, gI_i t.1]
    have rJ2 : ∀ q l, gJ S2 (ad q) l = gJ (cpBz ad b (120 + 40 * s) mo S) (ad q) l := fun q l => by rw [← hS2]; rfl
    have e3 : gJ S2 (ad 3) = v := by
      rw [← r.m.2.1]; funext l; rw [rJ2, (cpz_far t.1 hf S (by omega) l).2]
    have m1 : Mv (uI S2 (ad 1) 2 0) ad v np nf no mo := Mv_t ⟨t2, e3, r.m.2.2⟩ (ad 1) 2 0
    have hM : f_X12_copyBlock (uI S2 (ad 1) 2 0) (ad 1) 0 (1 + nI s) = some (qJ (uI S2 (ad 1) 2 0) (ad 3) (cbV v 0 (s + 1))) := M_copyB m1.1 m1.2.1 rfl (by rw [ad1, Nat.add_comm]) (by decide) (by omega) (by omega)
    have tq : TR (qJ (uI S2 (ad 1) 2 0) (ad 3) (cbV v 0 (s + 1))) ad := TR_SR0 (SR0_qJ _ _ _) m1.1
    have st4 : ∀ {β : Type} (K : St → Option β), stI (qJ (uI S2 (ad 1) 2 0) (ad 3) (cbV v 0 (s + 1))) (ad 4) (nI s) (vp_nar .boolean 1) K = K (uI (qJ (uI S2 (ad 1) 2 0) (ad 3) (cbV v 0 (s + 1))) (ad 4) s 1) := fun K => by
      rw [nb, stI_at (by rw [n_4 tq]; exact hs) (by rw [n_4 tq]; decide)]
    generalize hS3 : uI (qJ (uI S2 (ad 1) 2 0) (ad 3) (cbV v 0 (s + 1))) (ad 4) s 1 = S3 at st4
    have sr3 : SR0 S S3 := by rw [← hS3]; exact ((sr2.trans (SR0_uI _ _ _ _)).trans (SR0_qJ _ _ _)).trans (SR0_uI _ _ _ _)
    have rI : ∀ q l, gI S3 (ad q) l = if q = 4 ∧ l = s then 1 else if q = 1 ∧ l = 2 then 0 else if q = 21 ∧ l = s then 1 else gI (cpBz ad b (120 + 40 * s) mo S) (ad q) l := fun q l => by
      rw [← hS3, gI_i t.1, gI_qJ, gI_i t.1, rI2]
    have rJ : ∀ q l, gJ S3 (ad q) l = if q = 3 then cbV v 0 (s + 1) l else gJ (cpBz ad b (120 + 40 * s) mo S) (ad q) l := fun q l => by
      rw [← hS3, gJ_uI, gJ_qJ, gJ_uI, rJ2]
      simp only [t.1]
    have far : ∀ q, q ≠ 1 → q ≠ 3 → q ≠ 4 → q ≠ 21 → (q < 120 + 40 * s ∨ 160 + 40 * s ≤ q) → Ag S S3 ad q := fun q h1 h3 h4 h21 h l => by
      rw [rI, rJ, if_neg (by omega), if_neg (by omega), if_neg (by omega), if_neg h3]
      exact cpz_far t.1 hf S (by omega) l
    have near : ∀ q, q < 40 → Ag (cpBz ad b (120 + 40 * s) mo S) S3 ad (120 + 40 * s + q) := fun q hq l => by
      rw [rI, rJ, if_neg (by omega), if_neg (by omega), if_neg (by omega), if_neg (by omega)]
      exact ⟨rfl, rfl⟩
    have f1 : ∀ l, l ≠ 2 → gI S3 (ad 1) l = gI S (ad 1) l := fun l hl => by
      rw [rI, if_neg (by omega), if_neg (by omega), if_neg (by omega)]; exact (cpz_far t.1 hf S (by omega) l).1
    have hv1 : ∀ l, l < 5054 → cbV v 0 (s + 1) l = v l := fun l hl => by unfold cbV; rw [if_neg (by omega)]
    have hbS : ∀ q, BR q → Ag S S3 ad (b + q) := fun q hq => far _ (by omega) (by omega) (by omega) (by omega) (by unfold BR at hq; omega)
    refine ⟨S3, c, ⟨b, d, j, k, cbV v 0 (s + 1), np, nf, no, mo, ?_⟩, by omega, fun kont => ?_⟩
    · have sn : ∀ s', s' < 2 → SN1 S3 ad (cbV v 0 (s + 1)) np nf s' := fun s' hs' => by
        by_cases e : s' = s
        · subst e
          refine ⟨by rw [rI, rI]; simp, Or.inr ⟨by rw [rI]; simp, no, mo, ?_⟩⟩
          have hw : ∀ l, l < 5054 → (fun i => cbV v 0 (s' + 1) (5054 * (s' + 1) + i)) l = v l := fun l hl => by
            show cbV v 0 (s' + 1) (5054 * (s' + 1) + l) = v l
            unfold cbV; rw [if_pos (by omega), show 5054 * 0 + (5054 * (s' + 1) + l - 5054 * (s' + 1)) = l by omega]
          refine ⟨⟨(hw 1 (by decide)).trans r.m.2.2.1, (hw 2 (by decide)).trans r.m.2.2.2.1, (hw 3 (by decide)).trans r.m.2.2.2.2.1, (hw 0 (by decide)).trans r.m.2.2.2.2.2.1, cv.hp, cv.hf, cv.ho, cv.hm⟩, ⟨WF_v hw cv.hp cv.hf cv.ho cv.hm cv.w, WS_w (fun f q hf hq => hw _ (by omega)) (hw 11 (by decide)) r.ws⟩, AXs_v hw cv.hf cv.ho cv.hm (AXs_c (fun q hq => near q (by unfold BR at hq; omega)) (AXs_copy t.1 hf cv.hf cv.ho cv.hm ⟨cv.G, cv.O, cv.F, cv.R, cv.B⟩)), ⟨fun l hl => (hw l (by omega)).trans (hv1 l (by omega)).symm, fun f hf => (hw _ (by omega)).trans (hv1 _ (by omega)).symm⟩⟩
        · have sn : SN1 S ad v np nf s' := by rcases (show s' = 0 ∨ s' = 1 by omega) with rfl | rfl; exact r.sn.1; exact r.sn.2
          have a4 : gI S3 (ad 4) s' = gI S (ad 4) s' := by rw [rI, if_neg (by omega), if_neg (by omega), if_neg (by omega)]; exact (cpz_far t.1 hf S (by omega) s').1
          have a21 : gI S3 (ad 21) s' = gI S (ad 21) s' := by rw [rI, if_neg (by omega), if_neg (by omega), if_neg (by omega)]; exact (cpz_far t.1 hf S (by omega) s').1
          have ew : (fun i => cbV v 0 (s + 1) (5054 * (s' + 1) + i)) = fun i => if 5054 * (s + 1) ≤ 5054 * (s' + 1) + i ∧ 5054 * (s' + 1) + i < 5054 * (s + 1) + 5054 then v (5054 * 0 + (5054 * (s' + 1) + i - 5054 * (s + 1))) else v (5054 * (s' + 1) + i) := rfl
          have hw : ∀ l, l < 5054 → (fun i => cbV v 0 (s + 1) (5054 * (s' + 1) + i)) l = (fun i => v (5054 * (s' + 1) + i)) l := fun l hl => by
            show cbV v 0 (s + 1) (5054 * (s' + 1) + l) = v (5054 * (s' + 1) + l)
            unfold cbV; rw [if_neg (by omega)]
          refine ⟨by rw [a4, a21]; exact sn.1, ?_⟩
          rw [a4]
          refine sn.2.imp id (fun ⟨e, no', mo', bk, ⟨w, ws⟩, ax, te⟩ => ⟨e, no', mo', ⟨(hw 1 (by decide)).trans bk.1, (hw 2 (by decide)).trans bk.2.1, (hw 3 (by decide)).trans bk.2.2.1, (hw 0 (by decide)).trans bk.2.2.2.1, bk.2.2.2.2⟩, ⟨WF_v hw cv.hp cv.hf bk.2.2.2.2.2.2.1 bk.2.2.2.2.2.2.2 w, WS_w (fun f q hf hq => hw _ (by omega)) (hw 11 (by decide)) ws⟩, AXs_v hw cv.hf bk.2.2.2.2.2.2.1 bk.2.2.2.2.2.2.2 (AXs_c (fun q hq => far _ (by omega) (by omega) (by omega) (by omega) (by unfold BR at hq; omega)) ax), ?_⟩)
          exact ⟨fun l hl => (hw l (by omega)).trans ((te.1 l hl).trans (hv1 l (by omega)).symm), fun f hf => (hw _ (by omega)).trans ((te.2 f hf).trans (hv1 _ (by omega)).symm)⟩
      obtain ⟨-, e1, e2, r6, r7, r8, -, ip, er, fm, jr, -, ws⟩ := id r
      refine ⟨CV_v hv1 (CV_c sr3 hbS cv), e1, e2, (sr3.1 _ _).trans r6, (sr3.1 _ _).trans r7, (sr3.1 _ _).trans r8, ⟨sn 0 (by decide), sn 1 (by decide)⟩, ?_, ?_, ?_, ?_, ?_, WS_w (fun f q hf hq => hv1 _ (by omega)) (hv1 11 (by decide)) ws⟩
      · exact INP_c (far 12 (by omega) (by omega) (by omega) (by omega) (by omega) 1).1 (f1 9 (by decide)) (far 13 (by omega) (by omega) (by omega) (by omega) (by omega)) (far 9 (by omega) (by omega) (by omega) (by omega) (by omega)) ip
      · exact ERR_c (far 0 (by omega) (by omega) (by omega) (by omega) (by omega)) (f1 11 (by decide)) (f1 12 (by decide)) er
      · exact FMT_c (far 14 (by omega) (by omega) (by omega) (by omega) (by omega)) (f1 7 (by decide)) (far 15 (by omega) (by omega) (by omega) (by omega) (by omega)) (far 8 (by omega) (by omega) (by omega) (by omega) (by omega)) fm
      · exact JRN_c (far j (by omega) (by omega) (by omega) (by omega) (by omega)) (fun q hq => far _ (by omega) (by omega) (by omega) (by omega) (by omega)) (f1 19 (by decide)) (f1 20 (by decide)) (far 10 (by omega) (by omega) (by omega) (by omega) (by omega)) jr
      · funext l; rw [rJ, if_pos rfl]
    · simp only [f_law_59, s1, f_X11_saveSnapshot, ec, hv, if_true, lt_n, r_0_3 t, ld20 t hs, cv.r, C_copy t hB1 hB2 hf cv.hm cv.B.1, cl_n, r_0_4 tc, st21, f_X12_saveSnapshot, M_inRange, e6, if_bI, hM, r_1_1 tq, st4]
