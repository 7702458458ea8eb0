/-! the pure part: loadJournal is a step of the law -/
variable {S S0 S1 S2 S' S'' S3 X Y : St} {ad : Nat → Nat} {b d j k : Nat} {v v0 v' v1 v2 u w : Nat → Int64} {np nf no mo no' mo' x y : Nat}
theorem rt0 : ∀ x ∈ rtab, x.1 = 0 → x.2.1 ≤ 4 := by decide +kernel
theorem TR_uR (t : TR S ad) {i w : Nat} (hi : 5 ≤ i) : TR (uR S (ad 0) i w) ad := by
  refine ⟨t.1, fun k p l c e => ?_, fun k p n e => t.2.2 k p n e⟩
  rw [gR_uR, if_neg]
  · exact t.2.1 k p l c e
  · rintro ⟨h1, h2⟩
    have := rt0 _ (List.mem_of_getElem? e) ((t.1 _ _).mp h1)
    simp only at this
    omega
theorem CV_uR (c : CV S ad b v np nf no mo) {i w : Nat} (hi : 6 ≤ i) : CV (uR S (ad 0) i w) ad b v np nf no mo :=
  ⟨⟨TR_uR c.t (by omega), trivial, c.m.2.2⟩, c.2.1, by rw [gR_uR, if_neg (fun z => by omega)]; exact c.r, c.w, c.T, c.G, c.O, c.N, c.F, c.R, c.B⟩
def P012 (p : Nat) : Prop := p = 0 ∨ p = 12
theorem C_fin (t : TR S ad) : f_X11_finishReading S (ad 0) = some (uI (uI (uI S (ad 0) 9 (gI S (ad 12) 5)) (ad 0) 10 (gI S (ad 12) 6)) (ad 12) 1 0) := by
  have g6 : gI (uI S (ad 0) 9 (gI S (ad 12) 5)) (ad 12) 6 = gI S (ad 12) 6 := (Ag_uI t (by decide) 6).1
  simp only [f_X11_finishReading, lt_n, gR_uI, r_0_0 t, g6]
theorem C_finf (t : TR S ad) {x y : Int32} : KCx S (uI (uI (uI S (ad 0) 9 x) (ad 0) 10 y) (ad 12) 1 0) ad P012 ∧ gI (uI (uI (uI S (ad 0) 9 x) (ad 0) 10 y) (ad 12) 1 0) (ad 0) 9 = x ∧ gI (uI (uI (uI S (ad 0) 9 x) (ad 0) 10 y) (ad 12) 1 0) (ad 0) 10 = y ∧ gI (uI (uI (uI S (ad 0) 9 x) (ad 0) 10 y) (ad 12) 1 0) (ad 12) 1 = 0 := by
  have t1 : TR (uI S (ad 0) 9 x) ad := TR_SR0 (SR0_uI _ _ _ _) t
  have t2 : TR (uI (uI S (ad 0) 9 x) (ad 0) 10 y) ad := TR_SR0 (SR0_uI _ _ _ _) t1
  refine ⟨((KCx_uI (P := P012) t (Or.inl rfl)).tr (KCx_uI t1 (Or.inl rfl))).tr (KCx_uI t2 (Or.inr rfl)), ?_, ?_, by rw [gI_uI, if_pos ⟨rfl, rfl⟩]⟩
  · rw [(Ag_uI t2 (show 0 ≠ 12 by decide) 9).1, gI_uI, if_neg (fun z => absurd z.2 (by decide)), gI_uI, if_pos ⟨rfl, rfl⟩]
  · rw [(Ag_uI t2 (show 0 ≠ 12 by decide) 10).1, gI_uI, if_pos ⟨rfl, rfl⟩]
def Qb (i : Nat) : Prop := i = 2 ∨ i = 21 ∨ Qf i
theorem RJ_pre {B : Nat → Int32} {n : Nat} (h : MB S ad B n) (h9 : gI S (ad 1) 9 = nI n) (hv : gJ S (ad 3) = v) : ∃ X, f_X12_beginText (uI (uI S (ad 1) 2 0) (ad 1) 21 0) (ad 1) = some X ∧ RS X ad B n 0 ∧ RX S X ad P0 Qb ∧ gI X (ad 1) 21 = nI 0 ∧ gJ X (ad 3) = v ∧ gI X (ad 1) 11 = 0 ∧ gI X (ad 1) 12 = -1 := by
  have t := h.1
  have t1 : TR (uI S (ad 1) 2 0) ad := TR_SR0 (SR0_uI _ _ _ _) t
  have x0 : RX S (uI (uI S (ad 1) 2 0) (ad 1) 21 0) ad P0 (fun i => i = 2 ∨ i = 21) := (RX_u1 t (Or.inl rfl)).tr (RX_u1 t1 (Or.inr rfl))
  obtain ⟨X, a1, a2, a3, a4, a5⟩ := R_begin (MB_c x0.1 (x0.2.1 9 (by decide) (fun z => z)) h) ((x0.2.2 9 (by decide)).trans h9)
  refine ⟨X, a1, a2, (x0.mono (fun _ z => z) (fun i z => by unfold Qb; omega)).tr (a3.mono (fun _ z => z) (fun i z => Or.inr (Or.inr z))), ?_, ?_, a4, a5⟩
  · rw [a3.2.2 21 (by unfold Qf; omega), gI_uI, if_pos ⟨rfl, rfl⟩]; rfl
  · exact (funext fun l => ((x0.2.1 3 (by decide) (fun z => z)).trans (a3.2.1 3 (by decide) (fun z => z)) l).2).trans hv
/-- a text is read: the ledger's tokens begin -/
theorem L_begin {n : Nat} (t : TR S ad) (hn : n ≤ 1500) (h1 : gI S (ad 12) 1 = nI n) : ∃ S', f_X9_begin S (ad 12) = some S' ∧ KCx S S' ad P12 ∧ LGs S' ad (gI S (ad 13)) n 0 none := by
  have t1 : TR (uI S (ad 12) 4 0) ad := TR_SR0 (SR0_uI _ _ _ _) t
  have t2 : TR (uI (uI S (ad 12) 4 0) (ad 12) 5 0) ad := TR_SR0 (SR0_uI _ _ _ _) t1
  have kc : KCx S (uI (uI (uI S (ad 12) 4 0) (ad 12) 5 0) (ad 12) 6 (-1)) ad P12 := ((KCx_uI (P := P12) t rfl).tr (KCx_uI t1 rfl)).tr (KCx_uI t2 rfl)
  have g : ∀ i, gI (uI (uI (uI S (ad 12) 4 0) (ad 12) 5 0) (ad 12) 6 (-1)) (ad 12) i = if i = 6 then -1 else if i = 5 then 0 else if i = 4 then 0 else gI S (ad 12) i := fun i => by
    rw [gI_uI, gI_uI, gI_uI]
    by_cases q1 : i = 6 <;> by_cases q2 : i = 5 <;> by_cases q3 : i = 4 <;> simp [q1, q2, q3]
  refine ⟨_, rfl, kc, ⟨kc.t t, hn, fun i hi => (kc.2 13 (by unfold P12; decide) i).1⟩, ?_, ?_, by omega, ?_, ?_⟩
  · rw [g]; exact h1
  · rw [g]; rfl
  · rw [g]; rfl
  · rw [g]; rfl
theorem ENT_cg {kd sb x y mb ys : Int32} {am : Int64} {r r' : Nat → Int32} (h : ∀ i, i < 5 → r' i = r i) (e : ENT nf kd sb x y mb ys am r) : ENT nf kd sb x y mb ys am r' := by
  unfold ENT at e ⊢
  simp only [h 0 (by omega), h 1 (by omega), h 2 (by omega), h 3 (by omega), h 4 (by omega)]
  exact e
theorem W_6 : StpW ad f_law_6 := by
  intro Ls xs S c i ⟨b, d, j, k, v, np, nf, no, mo, r⟩ hi hL hc
  obtain ⟨cv, e1, e2, r6, r7, r8, sn, ip, er, fm, jr, h3, ws⟩ := r
  have hB := cv.2.1
  have t := cv.t
  have hb : BB b := by unfold BB; omega
  have hk : JB k := by unfold JB; omega
  have hk' : k = 22 ∨ k = 30 := hk
  obtain ⟨n, hn, i1, i2, i3⟩ := ip
  have tA : TR (uI S (ad k) 7 0) ad := TR_SR0 (SR0_uI _ _ _ _) t
  have kA : KCx S (uI (uI S (ad k) 7 0) (ad k) 8 0) ad (PK k) := (KCx_uI (P := PK k) t (Or.inr (by omega))).tr (KCx_uI tA (Or.inr (by omega)))
  have kA12 : Ag S (uI (uI S (ad k) 7 0) (ad k) 8 0) ad 12 := (Ag_uI t (by omega)).trans (Ag_uI tA (by omega))
  obtain ⟨S2, b1, b2, b3⟩ := L_begin (kA.t t) hn ((kA12 1).1.trans i1)
  have e13 : gI (uI (uI S (ad k) 7 0) (ad k) 8 0) (ad 13) = gI S (ad 13) := funext fun i => (kA.2 13 (by unfold PK; omega) i).1
  rw [e13] at b3
  have g72 : gI S2 (ad k) 7 = nI 0 := by
    rw [(b2.2 k (by unfold P12; omega) 7).1, gI_uI, if_neg (fun z => absurd z.2 (by decide)), gI_uI, if_pos ⟨rfl, rfl⟩]; rfl
  have g82 : gI S2 (ad k) 8 = 0 := by
    rw [(b2.2 k (by unfold P12; omega) 8).1, gI_uI, if_pos ⟨rfl, rfl⟩]
  have k2 : KCx S S2 ad (PK k) := kA.tr (b2.mono (fun _ z => Or.inl z))
  obtain ⟨Sx, y1, y2, y3, y4⟩ := JL (nf := nf) (v := v) hk hb cv.hf cv.m.2.2.2.1 (n + 1) 0 0 FU 0 S2 (by omega) (show n + 1 ≤ 6000 by omega) b3 (Nat.le_refl _) g72 (by omega) (AXN_PK k2 hk hb cv.N)
  have hrf : f_X5_readFrom S (ad k) (ad 12) (ad (b + 4)) = some Sx := by
    rw [rfE]
    simp only [f_X5_clear, lt_n, cl_n]
    rw [b1, cl_n]; exact y1
  have kx := k2.tr y2
  have tx := kx.t t
  have hfin := C_fin tx
  obtain ⟨kf, f9, f10, f1⟩ := C_finf (x := gI Sx (ad 12) 5) (y := gI Sx (ad 12) 6) tx
  generalize uI (uI (uI Sx (ad 0) 9 (gI Sx (ad 12) 5)) (ad 0) 10 (gI Sx (ad 12) 6)) (ad 12) 1 0 = Y at hfin kf f9 f10 f1
  have sY : SR0 S Y := kx.1.trans kf.1
  have tY := TR_SR0 sY t
  have aY : ∀ p, p ≠ 0 → p ≠ 12 → ¬ (k ≤ p ∧ p ≤ k + 7) → Ag S Y ad p := fun p h0 h12 hkk => (kx.2 p (by unfold PK; omega)).trans (kf.2 p (by unfold P012; omega))
  have mbY : MB Y ad (gI S (ad 13)) n := ⟨tY, hn, fun i hi => ⟨((aY 9 (by omega) (by omega) (by omega) i).1.trans (i3 i hi).1.symm), (i3 i hi).2⟩⟩
  have f1Y : ∀ i, gI Y (ad 1) i = gI S (ad 1) i := fun i => (aY 1 (by omega) (by omega) (by omega) i).1
  have v3Y : gJ Y (ad 3) = v := (funext fun l => (aY 3 (by omega) (by omega) (by omega) l).2).trans h3
  have rb3 : gR S (ad b) 3 = ad (b + 4) := r_b0_3 t hb
  rcases y4 with ⟨s', u1, u2, u3, u4, u5, u6, u7⟩ | ⟨c', p, u3, u4, u5, u7⟩
  · rw [u3] at f9
    rw [u4] at f10
    obtain ⟨Z, hZ⟩ : ∃ Z, Z = uR (uR Y (ad 0) 7 (ad k)) (ad 0) 8 (ad j) := ⟨_, rfl⟩
    have g7Y : gI Y (ad k) 7 = nI s' := (kf.2 k (by unfold P012; omega) 7).1.trans u5
    have g8Y : gI Y (ad k) 8 = 0 := (kf.2 k (by unfold P012; omega) 8).1.trans (y3.trans g82)
    have hx : f_X11_loadJournal S (ad 0) = some (nI s', Z) := by
      have q7 : gR Y (ad 0) 7 = ad j := (sY.1 _ _).trans r7
      have q8 : gR Y (ad 0) 8 = ad k := (sY.1 _ _).trans r8
      have q9 : gR Z (ad 0) 7 = ad k := by rw [hZ, gR_uR, if_neg (fun z => absurd z.2 (by decide)), gR_uR, if_pos ⟨rfl, rfl⟩]
      have z7 : gI Z (ad k) 7 = nI s' := by rw [hZ]; exact g7Y
      have z8 : gI Z (ad k) 8 = 0 := by rw [hZ]; exact g8Y
      have sub0 : nI s' - 0 = nI s' := nI_sub (Nat.zero_le s')
      simp only [f_X11_loadJournal, lt_n, r8, r_0_0 t, cv.r, rb3, hrf, cl_n, hfin, f9, if_true, q7, q8]
      rw [← hZ]
      simp only [q9, f_X5_left, lt_n, z7, z8, sub0, cl_n]
    have tZ : TR Z ad := by rw [hZ]; exact TR_uR (TR_uR tY (by omega)) (by omega)
    have iZ : ∀ a l, gI Z a l = gI Y a l := fun a l => by rw [hZ]; rfl
    have jZ : ∀ a l, gJ Z a l = gJ Y a l := fun a l => by rw [hZ]; rfl
    have mbZ : MB Z ad (gI S (ad 13)) n := ⟨tZ, hn, fun i hi => by rw [iZ]; exact mbY.2.2 i hi⟩
    obtain ⟨X, a1, a2, a3, a4, a5, a6, a7⟩ := RJ_pre mbZ (by rw [iZ, f1Y]; exact i2) (show gJ Z (ad 3) = v from (funext fun l => jZ (ad 3) l).trans v3Y)
    obtain ⟨X', w1, w2, w3, w4, w5⟩ := u7 X FU (show n + 1 ≤ 6000 by omega) a2 a4 a5
    have tX' := w2.t a2.1.1
    have x9 : RX X' (uI X' (ad 1) 9 0) ad P0 (fun i => i = 9) := RX_u1 tX' rfl
    obtain ⟨W, c1, c2, c3⟩ := ljC (TR_SR0 (SR0_uI _ _ _ _) tX' : TR (uI X' (ad 1) 9 0) ad) u2 ((x9.2.2 21 (by decide)).trans w3)
    have hy : f_X12_loadJournal Z (ad 1) = some (nI s', uI (uI W (ad 1) 19 (nI s')) (ad 1) 20 0) := by
      rw [ljE2 _ _ _ a1, w1, ljT_1, c1]
    have tW := c2.t (TR_SR0 (SR0_uI _ _ _ _) tX')
    have tW1 : TR (uI W (ad 1) 19 (nI s')) ad := TR_SR0 (SR0_uI _ _ _ _) tW
    obtain ⟨V, hV⟩ : ∃ V, V = uI (uI W (ad 1) 19 (nI s')) (ad 1) 20 0 := ⟨_, rfl⟩
    have fV : ∀ i, gI V (ad 1) i = if i = 20 then 0 else if i = 19 then nI s' else gI W (ad 1) i := fun i => by
      rw [hV, gI_uI, gI_uI]
      by_cases q1 : i = 20 <;> by_cases q2 : i = 19 <;> simp [q1, q2]
    have oV : ∀ p, p ≠ 1 → Ag W V ad p := fun p hp => by rw [hV]; exact (Ag_uI tW hp).trans (Ag_uI tW1 hp)
    have sV : SR0 Z V := by
      rw [hV]
      exact a3.1.trans (w2.1.trans ((SR0_uI _ _ _ _).trans (c2.1.trans ((SR0_uI _ _ _ _).trans (SR0_uI _ _ _ _)))))
    have aZV : ∀ p, p ≠ 1 → p ≠ 10 → p ≠ 11 → Ag Z V ad p := fun p q1 q2 q3 => ((a3.2.1 p q1 (fun z => z)).trans (w2.2.1 p q1 q3)).trans ((x9.2.1 p q1 (fun z => z)).trans ((c2.2.1 p q1 q2).trans (oV p q1)))
    have aV : ∀ p, p ≠ 0 → p ≠ 1 → p ≠ 10 → p ≠ 11 → p ≠ 12 → ¬ (k ≤ p ∧ p ≤ k + 7) → Ag S V ad p := fun p q0 q1 q2 q3 q4 q5 => (aY p q0 q4 q5).trans (fun l => ⟨(aZV p q1 q2 q3 l).1.trans (iZ _ _), (aZV p q1 q2 q3 l).2.trans (jZ _ _)⟩)
    have sH : SR0 (uR (uR S (ad 0) 7 (ad k)) (ad 0) 8 (ad j)) V := by
      refine ⟨fun a i => ?_, fun a => ?_⟩
      · rw [sV.1, hZ, gR_uR, gR_uR, gR_uR, gR_uR, sY.1]
      · rw [sV.2, hZ]; exact sY.2 a
    have aH : ∀ p, p ≠ 0 → p ≠ 1 → p ≠ 10 → p ≠ 11 → p ≠ 12 → ¬ (k ≤ p ∧ p ≤ k + 7) → Ag (uR (uR S (ad 0) 7 (ad k)) (ad 0) 8 (ad j)) V ad p := aV
    have cvV : CV V ad b v np nf no mo := CV_c sH (fun q hq => aH _ (by unfold BR at hq; omega) (by unfold BR at hq; omega) (by unfold BR at hq; omega) (by unfold BR at hq; omega) (by unfold BR at hq; omega) (by unfold BR at hq; omega)) (CV_uR (CV_uR cv (by omega)) (by omega))
    have fW : ∀ i, ¬ Qb i → i ≠ 9 → gI W (ad 1) i = gI S (ad 1) i := fun i q1 q9 => by
      rw [c2.2.2 i (fun z => z), x9.2.2 i q9, w2.2.2 i (fun z => q1 (by unfold Qe Qt at z; unfold Qb Qf; omega)), a3.2.2 i q1, iZ, f1Y]
    have f11 : gI W (ad 1) 11 = 0 := by
      rw [c2.2.2 11 (fun z => z), x9.2.2 11 (by decide), w2.2.2 11 (by unfold Qe Qt; omega)]; exact a6
    have f12 : gI W (ad 1) 12 = -1 := by
      rw [c2.2.2 12 (fun z => z), x9.2.2 12 (by decide), w2.2.2 12 (by unfold Qe Qt; omega)]; exact a7
    have fw9 : gI W (ad 1) 9 = 0 := by
      rw [c2.2.2 9 (fun z => z), gI_uI, if_pos ⟨rfl, rfl⟩]
    refine ⟨V, c, ⟨b, d, k, j, v, np, nf, no, mo, cvV, e1, by omega, ?_, ?_, ?_, ⟨?_, ?_⟩, ?_, ?_, ?_, ?_, ?_, ws⟩, by omega, fun kont => ?_⟩
    · rw [sH.1, gR_uR, if_neg (fun z => absurd z.2 (by decide)), gR_uR, if_neg (fun z => absurd z.2 (by decide))]; exact r6
    · rw [sH.1, gR_uR, if_neg (fun z => absurd z.2 (by decide)), gR_uR, if_pos ⟨rfl, rfl⟩]
    · rw [sH.1, gR_uR, if_pos ⟨rfl, rfl⟩]
    · exact SN1_c (aV 21 (by omega) (by omega) (by omega) (by omega) (by omega) (by omega)) (aV 4 (by omega) (by omega) (by omega) (by omega) (by omega) (by omega)) (fun q hq => aV _ (by omega) (by omega) (by omega) (by omega) (by omega) (by omega)) sn.1
    · exact SN1_c (aV 21 (by omega) (by omega) (by omega) (by omega) (by omega) (by omega)) (aV 4 (by omega) (by omega) (by omega) (by omega) (by omega) (by omega)) (fun q hq => aV _ (by omega) (by omega) (by omega) (by omega) (by omega) (by omega)) sn.2
    · refine ⟨0, by omega, ?_, ?_, fun i hi => absurd hi (by omega)⟩
      · rw [(aZV 12 (by omega) (by omega) (by omega) 1).1, iZ, f1]; rfl
      · rw [fV]; exact fw9
    · refine ⟨?_, ?_⟩
      · rw [(aZV 0 (by omega) (by omega) (by omega) 9).1, iZ, f9, fV]; exact f11.symm
      · rw [(aZV 0 (by omega) (by omega) (by omega) 10).1, iZ, f10, fV]; exact f12.symm
    · exact FMT_c (aV 14 (by omega) (by omega) (by omega) (by omega) (by omega) (by omega)) (by rw [fV]; exact fW 7 (by unfold Qb Qf; omega) (by omega)) (aV 15 (by omega) (by omega) (by omega) (by omega) (by omega) (by omega)) (aV 8 (by omega) (by omega) (by omega) (by omega) (by omega) (by omega)) fm
    · have kk : ∀ q, q ≤ 7 → Ag Sx V ad (k + q) := fun q hq => (kf.2 _ (by unfold P012; omega)).trans (fun l => ⟨(aZV (k + q) (by omega) (by omega) (by omega) l).1.trans (iZ _ _), (aZV (k + q) (by omega) (by omega) (by omega) l).2.trans (jZ _ _)⟩)
      refine ⟨s', 0, by omega, u2, (kk 0 (by omega) 7).1.trans u5, ?_, ?_, ?_, fun e he => ?_⟩
      · exact (kk 0 (by omega) 8).1.trans (y3.trans g82)
      · rw [fV]; rfl
      · rw [fV]; rfl
      · have z := w5 e (by omega) he
        unfold ENR at z
        rw [(kk 1 (by omega) e).1, (kk 2 (by omega) e).1, (kk 3 (by omega) e).1, (kk 4 (by omega) e).1, (kk 5 (by omega) e).1, (kk 6 (by omega) e).1, (kk 7 (by omega) e).2]
        refine ENT_cg (fun i hi => ?_) z
        show gI V (ad 10) (5 * e + i) = gI X' (ad 11) (5 * e + i)
        rw [(oV 10 (by decide) _).1, c3 _ (by omega), (x9.2.1 11 (by decide) (fun z => z) _).1]
    · exact (funext fun l => (aV 3 (by omega) (by omega) (by omega) (by omega) (by omega) (by omega) l).2).trans h3
    · rw [← hV] at hy
      simp only [f_law_6, hx, hy, cl_n, if_true]
  · rw [u3] at f9
    rw [u4] at f10
    have n0 : ¬ nI c' = 0 := by rw [show (0 : Int32) = nI 0 from rfl, nI_eq (by omega) (by omega)]; omega
    have hx : f_X11_loadJournal S (ad 0) = some (-4, Y) := by
      simp only [f_X11_loadJournal, lt_n, r8, r_0_0 t, cv.r, rb3, hrf, cl_n, hfin, f9, n0, if_false]
    obtain ⟨X, a1, a2, a3, a4, a5, a6, a7⟩ := RJ_pre mbY (by rw [f1Y]; exact i2) v3Y
    obtain ⟨X', w1, w2⟩ := u7 X FU (show n + 1 ≤ 6000 by omega) a2 a4 a5
    have tX' := w2.1.t a2.1.1
    have hy : f_X12_loadJournal Y (ad 1) = some (-4, uI X' (ad 1) 9 0) := by
      rw [ljE2 _ _ _ a1, w1, ljT_0]
    obtain ⟨V, hV⟩ : ∃ V, V = uI X' (ad 1) 9 0 := ⟨_, rfl⟩
    have x9 : RX X' V ad P0 (fun i => i = 9) := by rw [hV]; exact RX_u1 tX' rfl
    have sV : SR0 S V := sY.trans (a3.1.trans (w2.1.1.trans x9.1))
    have aYV : ∀ p, p ≠ 1 → p ≠ 11 → Ag Y V ad p := fun p q1 q3 => ((a3.2.1 p q1 (fun z => z)).trans (w2.1.2.1 p q1 q3)).trans (x9.2.1 p q1 (fun z => z))
    have aV : ∀ p, p ≠ 0 → p ≠ 1 → p ≠ 11 → p ≠ 12 → ¬ (k ≤ p ∧ p ≤ k + 7) → Ag S V ad p := fun p q0 q1 q3 q4 q5 => (aY p q0 q4 q5).trans (aYV p q1 q3)
    have fV : ∀ i, ¬ Qb i → i ≠ 9 → gI V (ad 1) i = gI S (ad 1) i := fun i q1 q9 => by
      rw [x9.2.2 i q9, w2.1.2.2 i (fun z => q1 (by unfold Qef Qf at z; unfold Qb Qf; omega)), a3.2.2 i q1, f1Y]
    refine ⟨V, c, ⟨b, d, j, k, v, np, nf, no, mo, CV_c sV (fun q hq => aV _ (by unfold BR at hq; omega) (by unfold BR at hq; omega) (by unfold BR at hq; omega) (by unfold BR at hq; omega) (by unfold BR at hq; omega)) cv, e1, e2, (sV.1 _ _).trans r6, (sV.1 _ _).trans r7, (sV.1 _ _).trans r8, ⟨?_, ?_⟩, ?_, ?_, ?_, ?_, ?_, ws⟩, by omega, fun kont => ?_⟩
    · exact SN1_c (aV 21 (by omega) (by omega) (by omega) (by omega) (by omega)) (aV 4 (by omega) (by omega) (by omega) (by omega) (by omega)) (fun q hq => aV _ (by omega) (by omega) (by omega) (by omega) (by omega)) sn.1
    · exact SN1_c (aV 21 (by omega) (by omega) (by omega) (by omega) (by omega)) (aV 4 (by omega) (by omega) (by omega) (by omega) (by omega)) (fun q hq => aV _ (by omega) (by omega) (by omega) (by omega) (by omega)) sn.2
    · refine ⟨0, by omega, ?_, ?_, fun i hi => absurd hi (by omega)⟩
      · rw [(aYV 12 (by omega) (by omega) 1).1, f1]; rfl
      · rw [hV, gI_uI, if_pos ⟨rfl, rfl⟩]; rfl
    · refine ⟨?_, ?_⟩
      · rw [(aYV 0 (by omega) (by omega) 9).1, f9, x9.2.2 11 (by decide)]; exact w2.2.1.symm
      · rw [(aYV 0 (by omega) (by omega) 10).1, f10, x9.2.2 12 (by decide)]; exact w2.2.2.symm
    · exact FMT_c (aV 14 (by omega) (by omega) (by omega) (by omega) (by omega)) (fV 7 (by unfold Qb Qf; omega) (by omega)) (aV 15 (by omega) (by omega) (by omega) (by omega) (by omega)) (aV 8 (by omega) (by omega) (by omega) (by omega) (by omega)) fm
    · exact JRN_c (aV j (by omega) (by omega) (by omega) (by omega) (by omega)) (fun q hq => aV _ (by omega) (by omega) (by omega) (by omega) (by omega)) (fV 19 (by unfold Qb Qf; omega) (by omega)) (fV 20 (by unfold Qb Qf; omega) (by omega)) (aV 10 (by omega) (by omega) (by omega) (by omega) (by omega)) jr
    · exact (funext fun l => (aV 3 (by omega) (by omega) (by omega) (by omega) (by omega) l).2).trans h3
    · rw [← hV] at hy
      simp only [f_law_6, hx, hy, cl_n, if_true]
