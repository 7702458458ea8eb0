/-! the pure part: load is a step of the law -/
variable {S S0 S1 S2 S' S'' S3 X Y : St} {ad : Nat → Nat} {b d j k : Nat} {v v0 v' v1 v2 u u0 u' w : Nat → Int64} {np nf no mo no' mo' x y : Nat}
theorem DV_t (h0 : TR S' ad) (h : ∀ q, BR q → Ag S S' ad (d + q)) (c : DV S ad d u np nf no) : DV S' ad d u np nf no :=
  ⟨⟨h0, trivial, c.m.2.2⟩, c.2.1, c.w, c.ws, AXT_c (fun q hq => h q (by unfold BR; omega)) c.T, AXG_c (h 12 (by unfold BR; omega)) c.G, AXO_c (fun q hq => h q (by unfold BR; omega)) c.O, AXN_c (fun q hq => h q (by unfold BR; omega)) c.N, AXF_c (fun q hq => h q (by unfold BR; omega)) c.F, AXR_c (fun q hq => h q (by unfold BR; omega)) c.R, AXB_c (fun q hq => h q (by unfold BR; omega)) c.B, ZR_c (fun q hq => h q (by unfold BR; omega)) c.Z⟩
theorem DV_CV (c : DV S ad d u np nf no) (h5 : gR S (ad 0) 5 = ad d) : CV S ad d u np nf no 0 := ⟨c.m, c.hd, h5, c.w, c.T, c.G, c.O, c.N, c.F, c.R, c.B⟩
theorem SN1_v {s : Nat} (hs : s < 2) (h : ∀ i, i < 15162 → v' i = v i) (h8 : nf ≤ 8) (a : SN1 S ad v np nf s) : SN1 S ad v' np nf s := by
  refine ⟨a.1, a.2.imp id ?_⟩
  rintro ⟨e, no, mo, ⟨k1, k2, k3, k0, l4, l8, l16, l60⟩, ⟨w1, w2⟩, ax, te⟩
  have hh : ∀ i, i < 5054 → (fun i => v' (5054 * (s + 1) + i)) i = (fun i => v (5054 * (s + 1) + i)) i := fun i hi => h _ (by omega)
  exact ⟨e, no, mo, ⟨(hh 1 (by decide)).trans k1, (hh 2 (by decide)).trans k2, (hh 3 (by decide)).trans k3, (hh 0 (by decide)).trans k0, l4, l8, l16, l60⟩, ⟨WF_v hh l4 l8 l16 l60 w1, WS_w (fun f q hf hq => hh _ (by omega)) (hh 11 (by decide)) w2⟩, AXs_v hh l8 l16 l60 ax, ⟨fun i hi => (hh i (by omega)).trans ((te.1 i hi).trans (h i (by omega)).symm), fun f hf => (hh _ (by omega)).trans ((te.2 f hf).trans (h _ (by omega)).symm)⟩⟩
def lsB (p0 : Nat) (x : Int32) (k25 : Int32 → St → Option (Int32 × St)) (x23 : Int32) (S24 : St) : Option (Int32 × St) := if 2 ≤ x23 then (some (x, S24)) else (lt (gR S24 p0 4) fun (a27 : Nat) => stI S24 a27 x23 (vp_nar .boolean 0) fun (S29 : St) => k25 (x23 + 1) S29)
theorem lsB_e (p0 : Nat) (x : Int32) (k25 : Int32 → St → Option (Int32 × St)) (x23 : Int32) (S24 : St) : lsB p0 x k25 x23 S24 = if 2 ≤ x23 then (some (x, S24)) else (lt (gR S24 p0 4) fun (a27 : Nat) => stI S24 a27 x23 (vp_nar .boolean 0) fun (S29 : St) => k25 (x23 + 1) S29) := rfl
theorem st21z (t : TR S ad) {β : Type} {s : Nat} {i : Int32} (hi : i = nI s) (hs : s < 2) {K : St → Option β} : stI S (ad 21) i (vp_nar .boolean 0) K = K (uI S (ad 21) s 0) := by
  rw [hi, vn0, stI_at (by rw [n_21 t]; exact hs) (by rw [n_21 t]; decide)]
theorem st4z (t : TR S ad) {β : Type} {s : Nat} {i : Int32} (hi : i = nI s) (hs : s < 2) {K : St → Option β} : stI S (ad 4) i (vp_nar .boolean 0) K = K (uI S (ad 4) s 0) := by
  rw [hi, vn0, stI_at (by rw [n_4 t]; exact hs) (by rw [n_4 t]; decide)]
theorem ls_e (t : TR S ad) (x : Int32) : lp (κ := Int32 → St → Option (Int32 × St)) (fun _ _ => none) (lsB (ad 0) x) FU 0 S = some (x, uI (uI S (ad 21) 0 0) (ad 21) 1 0) := by
  have t1 : TR (uI S (ad 21) 0 0) ad := TR_SR0 (SR0_uI _ _ _ _) t
  rw [show FU = 5997 + 1 + 1 + 1 from rfl, lp_s, lsB_e, if_neg (by decide), lt_n, r_0_4 t, st21z t (i := 0) (s := 0) rfl (by decide), lp_s, lsB_e, if_neg (by decide), lt_n, r_0_4 t1, st21z t1 (i := 0 + 1) (s := 1) (by decide) (by decide), lp_s, lsB_e, if_pos (by decide)]
theorem W_2 : StpW ad f_law_2 := by
  intro Ls xs S c i ⟨b, d, j, k, v, np, nf, no, mo, r⟩ hi hL hc
  obtain ⟨cv, e1, e2, r6, r7, r8, sn, ip, er, fm, jr, h3, ws⟩ := r
  have hB := cv.2.1
  have t := cv.t
  have hd : d = 40 ∨ d = 80 := by omega
  obtain ⟨n, hn, i1, i2, i3⟩ := ip
  obtain ⟨SA, ca, kA, dvA⟩ := C_clear t hd
  have tA := kA.t t
  obtain ⟨S2, b1, b2, b3⟩ := L_begin tA hn ((kA.2 12 (fun (z : d ≤ 12 ∧ 12 ≤ d + 38) => by omega) 1).1.trans i1)
  have e13 : gI SA (ad 13) = gI S (ad 13) := funext fun i => (kA.2 13 (fun (z : d ≤ 13 ∧ 13 ≤ d + 38) => by omega) i).1
  rw [e13] at b3
  have dv2 := DV_12 b2 dvA
  obtain ⟨s', Sx, y1, y2, y3⟩ := LL (v := v) (n + 1) 0 FU 0 S2 u00 0 0 0 (by omega) (show n + 1 ≤ 6000 by omega) b3 (Nat.le_refl _) dv2
  have hrd : f_X7_read SA (ad 12) (ad d) = some (nI s', Sx) := (rdE _ _ _ _ b1).trans y1
  have kx : KCx S Sx ad (PD d) := ((kA.mono (fun p (z : d ≤ p ∧ p ≤ d + 38) => Or.inr z)).tr (b2.mono (fun _ z => Or.inl z))).tr y2
  have tx := kx.t t
  have hfin := C_fin tx
  obtain ⟨kf, f9, f10, f1⟩ := C_finf (x := gI Sx (ad 12) 5) (y := gI Sx (ad 12) 6) tx
  generalize uI (uI (uI Sx (ad 0) 9 (gI Sx (ad 12) 5)) (ad 0) 10 (gI Sx (ad 12) 6)) (ad 12) 1 0 = Y at hfin kf f9 f10 f1
  have sY : SR0 S Y := kx.1.trans kf.1
  have tY := TR_SR0 sY t
  have aY : ∀ p, p ≠ 0 → p ≠ 12 → ¬ (d ≤ p ∧ p ≤ d + 38) → Ag S Y ad p := fun p h0 h12 hkk => (kx.2 p (by unfold PD; omega)).trans (kf.2 p (by unfold P012; omega))
  have mbY : MB Y ad (gI S (ad 13)) n := ⟨tY, hn, fun i hi => ⟨((aY 9 (by omega) (by omega) (by omega) i).1.trans (i3 i hi).1.symm), (i3 i hi).2⟩⟩
  have f1Y : ∀ i, gI Y (ad 1) i = gI S (ad 1) i := fun i => (aY 1 (by omega) (by omega) (by omega) i).1
  have v3Y : gJ Y (ad 3) = v := (funext fun l => (aY 3 (by omega) (by omega) (by omega) l).2).trans h3
  have r6A : gR SA (ad 0) 6 = ad d := (kA.1.1 _ _).trans r6
  rcases y3 with ⟨u', np', nf', no', u3, u4, dvx, u7⟩ | ⟨c', p, u3, u4, u5, u7⟩
  · rw [u3] at f9
    rw [u4] at f10
    have q5 : gR Y (ad 0) 5 = ad b := (sY.1 _ _).trans cv.r
    have q6 : gR Y (ad 0) 6 = ad d := (sY.1 _ _).trans r6
    have q7 : gR (uR (uR Y (ad 0) 5 (ad d)) (ad 0) 6 (ad b)) (ad 0) 7 = ad j := by rw [gR_uR, if_neg (fun z => absurd z.2 (by decide)), gR_uR, if_neg (fun z => absurd z.2 (by decide))]; exact (sY.1 _ _).trans r7
    have tR : TR (uR (uR Y (ad 0) 5 (ad d)) (ad 0) 6 (ad b)) ad := TR_uR (TR_uR tY (by omega)) (by omega)
    have tJ : TR (uI (uI (uR (uR Y (ad 0) 5 (ad d)) (ad 0) 6 (ad b)) (ad j) 7 0) (ad j) 8 0) ad := TR_SR0 ((SR0_uI _ _ _ _).trans (SR0_uI _ _ _ _)) tR
    obtain ⟨Z, hZ⟩ : ∃ Z, Z = uI (uI (uI (uI (uR (uR Y (ad 0) 5 (ad d)) (ad 0) 6 (ad b)) (ad j) 7 0) (ad j) 8 0) (ad 21) 0 0) (ad 21) 1 0 := ⟨_, rfl⟩
    have hx : f_X11_load S (ad 0) = some (nI s', Z) := by
      unfold f_X11_load
      rw [lt_n, r6, ca, cl_n, lt_n, r_0_0 tA, lt_n, r6A, hrd, cl_n, hfin, cl_n, lt_n, f9, if_pos rfl, lt_n, q5, lt_n, q6, lt_n, lt_n, lt_n, q7, f_X5_clear, lt_n, lt_n, cl_n, hZ]
      refine (jn_n _ _).trans ?_
      exact ls_e tJ (nI s')
    have tZ : TR Z ad := by rw [hZ]; exact TR_SR0 ((SR0_uI _ _ _ _).trans (SR0_uI _ _ _ _)) tJ
    have iZ : ∀ q l, gI Z (ad q) l = if q = 21 ∧ l = 1 then 0 else if q = 21 ∧ l = 0 then 0 else if q = j ∧ l = 8 then 0 else if q = j ∧ l = 7 then 0 else gI Y (ad q) l := fun q l => by
      rw [hZ, gI_i t.1, gI_i t.1, gI_i t.1, gI_i t.1, gI_uR, gI_uR]
    have jZ : ∀ a l, gJ Z a l = gJ Y a l := fun a l => by rw [hZ]; rfl
    have rZ : ∀ a l, gR Z a l = if a = ad 0 ∧ l = 6 then ad b else if a = ad 0 ∧ l = 5 then ad d else gR Y a l := fun a l => by
      rw [hZ, gR_uI, gR_uI, gR_uI, gR_uI, gR_uR, gR_uR]
    have aYZ : ∀ p, p ≠ j → p ≠ 21 → Ag Y Z ad p := fun p h1 h2 l => ⟨by rw [iZ, if_neg (by omega), if_neg (by omega), if_neg (by omega), if_neg (by omega)], jZ _ _⟩
    have mbZ : MB Z ad (gI S (ad 13)) n := ⟨tZ, hn, fun i hi => by rw [(aYZ 9 (by omega) (by omega) i).1]; exact mbY.2.2 i hi⟩
    have f1Z : ∀ i, gI Z (ad 1) i = gI S (ad 1) i := fun i => (aYZ 1 (by omega) (by omega) i).1.trans (f1Y i)
    have v3Z : gJ Z (ad 3) = v := (funext fun l => jZ (ad 3) l).trans v3Y
    obtain ⟨XA, X, a1, a2, a3, a4, a5, a6, a7⟩ := RL_pre mbZ (by rw [f1Z]; exact i2) v3Z
    obtain ⟨X', w1, w2, w3⟩ := u7 X FU (show n + 1 ≤ 6000 by omega) a3 a5 a6
    have tX' := w2.t a3.1.1
    have x11 : gI X' (ad 1) 11 = 0 := (w2.2.2 11 (by unfold Qt; omega)).trans a6
    have x12 : gI X' (ad 1) 12 = -1 := (w2.2.2 12 (by unfold Qt; omega)).trans a7
    have t9 : TR (uI X' (ad 1) 9 0) ad := TR_SR0 (SR0_uI _ _ _ _) tX'
    have g9 : gI (uI X' (ad 1) 9 0) (ad 1) 11 = 0 := by rw [gI_uI, if_neg (fun z => absurd z.2 (by decide))]; exact x11
    have cp := M_copyB (S := uI X' (ad 1) 9 0) (p := 3) (q := 0) (i1 := 3) (i2 := 0) t9 (show gJ (uI X' (ad 1) 9 0) (ad 3) = dV v u' from w3) rfl rfl (by decide) (by decide) (by decide)
    obtain ⟨v', hv'⟩ : ∃ v', v' = cbV (dV v u') 3 0 := ⟨_, rfl⟩
    rw [← hv'] at cp
    have vu : ∀ i, i < 5054 → v' i = u' i := fun i hi => by
      rw [hv']
      unfold cbV
      rw [if_pos (by omega), show 5054 * 3 + (i - 5054 * 0) = 15162 + i by omega]
      exact dV_at hi
    have t10 : TR (qJ (uI X' (ad 1) 9 0) (ad 3) v') ad := TR_SR0 (SR0_qJ _ _ _) t9
    have t11 : TR (uI (uI (qJ (uI X' (ad 1) 9 0) (ad 3) v') (ad 1) 19 0) (ad 1) 20 0) ad := TR_SR0 ((SR0_uI _ _ _ _).trans (SR0_uI _ _ _ _)) t10
    have t12 : TR (uI (uI (uI (qJ (uI X' (ad 1) 9 0) (ad 3) v') (ad 1) 19 0) (ad 1) 20 0) (ad 4) 0 0) ad := TR_SR0 (SR0_uI _ _ _ _) t11
    obtain ⟨V, hV⟩ : ∃ V, V = uI (uI (uI (uI (qJ (uI X' (ad 1) 9 0) (ad 3) v') (ad 1) 19 0) (ad 1) 20 0) (ad 4) 0 0) (ad 4) 1 0 := ⟨_, rfl⟩
    have hy : f_X12_load Z (ad 1) = some (nI s', V) := by
      refine (ldE _ _ _ _ a1 a2).trans (w1.trans ?_)
      unfold ldK
      rw [lt_n, lt_n, g9, if_pos rfl, cp, cl_n, lt_n, lt_n, lt_n, r_1_1 t11, st4z t11 (i := 0) (s := 0) rfl (by decide), lt_n, r_1_1 t12, st4z t12 (i := 1) (s := 1) rfl (by decide), ← hV]
    have tV : TR V ad := by rw [hV]; exact TR_SR0 (SR0_uI _ _ _ _) t12
    have iV : ∀ q l, gI V (ad q) l = if q = 4 ∧ l = 1 then 0 else if q = 4 ∧ l = 0 then 0 else if q = 1 ∧ l = 20 then 0 else if q = 1 ∧ l = 19 then 0 else if q = 1 ∧ l = 9 then 0 else gI X' (ad q) l := fun q l => by
      rw [hV, gI_i t.1, gI_i t.1, gI_i t.1, gI_i t.1, gI_qJ, gI_i t.1]
    have jV : ∀ q l, gJ V (ad q) l = if q = 3 then v' l else gJ X' (ad q) l := fun q l => by
      rw [hV, gJ_uI, gJ_uI, gJ_uI, gJ_uI, gJ_qJ, gJ_uI]
      simp only [t.1]
    have sV : SR0 Z V := by
      rw [hV]
      exact a4.1.trans (w2.1.trans ((SR0_uI _ _ _ _).trans ((SR0_qJ _ _ _).trans ((SR0_uI _ _ _ _).trans ((SR0_uI _ _ _ _).trans ((SR0_uI _ _ _ _).trans (SR0_uI _ _ _ _)))))))
    have aZV : ∀ p, p ≠ 1 → p ≠ 3 → p ≠ 4 → Ag Z V ad p := fun p h1 h3 h4 => ((a4.2.1 p h1 h3).trans (w2.2.1 p h1 h3)).trans (fun l => ⟨by rw [iV, if_neg (by omega), if_neg (by omega), if_neg (by omega), if_neg (by omega), if_neg (by omega)], by rw [jV, if_neg h3]⟩)
    have aV : ∀ p, p ≠ 0 → p ≠ 1 → p ≠ 3 → p ≠ 4 → p ≠ 12 → p ≠ 21 → p ≠ j → ¬ (d ≤ p ∧ p ≤ d + 38) → Ag S V ad p := fun p h0 h1 h3 h4 h12 h21 hj hdd => (aY p h0 h12 hdd).trans ((aYZ p hj h21).trans (aZV p h1 h3 h4))
    have fV : ∀ i, ¬ Qb i → i ≠ 9 → i ≠ 19 → i ≠ 20 → gI V (ad 1) i = gI S (ad 1) i := fun i hb h9 h19 h20 => by
      rw [iV, if_neg (by omega), if_neg (by omega), if_neg (by omega), if_neg (by omega), if_neg (by omega), w2.2.2 i (fun z => hb (by unfold Qt at z; unfold Qb Qf; omega)), a4.2.2 i hb, f1Z]
    have jj : j = 22 ∨ j = 30 := by omega
    have dvV : DV V ad d u' np' nf' no' := DV_t tV (fun q hq => ((kf.2 _ (by unfold P012; unfold BR at hq; omega)).trans (aYZ _ (by unfold BR at hq; omega) (by unfold BR at hq; omega))).trans (aZV _ (by unfold BR at hq; omega) (by unfold BR at hq; omega) (by unfold BR at hq; omega))) dvx
    have g5 : gR V (ad 0) 5 = ad d := by rw [sV.1, rZ, if_neg (fun z => absurd z.2 (by decide)), if_pos ⟨rfl, rfl⟩]
    have z21 : ∀ s, s < 2 → gI V (ad 21) s = 0 := fun s hs => by
      rw [(aZV 21 (by omega) (by omega) (by omega) s).1, iZ]
      by_cases h : s = 1
      · rw [if_pos ⟨rfl, h⟩]
      · rw [if_neg (fun z => h z.2), if_pos ⟨rfl, by omega⟩]
    have z4 : ∀ s, s < 2 → gI V (ad 4) s = 0 := fun s hs => by
      rw [iV]
      by_cases h : s = 1
      · rw [if_pos ⟨rfl, h⟩]
      · rw [if_neg (fun z => h z.2), if_pos ⟨rfl, by omega⟩]
    refine ⟨V, c, ⟨d, b, j, k, v', np', nf', no', 0, CV_v vu (DV_CV dvV g5), by omega, e2, ?_, ?_, ?_, ⟨⟨?_, ?_⟩, ⟨?_, ?_⟩⟩, ?_, ?_, ?_, ?_, ?_, ?_⟩, by omega, fun kont => ?_⟩
    · rw [sV.1, rZ, if_pos ⟨rfl, rfl⟩]
    · rw [sV.1, rZ, if_neg (fun z => absurd z.2 (by decide)), if_neg (fun z => absurd z.2 (by decide))]; exact (sY.1 _ _).trans r7
    · rw [sV.1, rZ, if_neg (fun z => absurd z.2 (by decide)), if_neg (fun z => absurd z.2 (by decide))]; exact (sY.1 _ _).trans r8
    · rw [z21 0 (by omega), z4 0 (by omega)]
    · exact Or.inl (z4 0 (by omega))
    · rw [z21 1 (by omega), z4 1 (by omega)]
    · exact Or.inl (z4 1 (by omega))
    · refine ⟨0, by omega, ?_, ?_, fun i hi => absurd hi (by omega)⟩
      · rw [(aZV 12 (by omega) (by omega) (by omega) 1).1, (aYZ 12 (by omega) (by omega) 1).1, f1]; rfl
      · rw [iV, if_neg (by omega), if_neg (by omega), if_neg (by omega), if_neg (by omega), if_pos ⟨rfl, rfl⟩]; rfl
    · refine ⟨?_, ?_⟩
      · rw [(aZV 0 (by omega) (by omega) (by omega) 9).1, (aYZ 0 (by omega) (by omega) 9).1, f9, iV, if_neg (by omega), if_neg (by omega), if_neg (by omega), if_neg (by omega), if_neg (by omega)]; exact x11.symm
      · rw [(aZV 0 (by omega) (by omega) (by omega) 10).1, (aYZ 0 (by omega) (by omega) 10).1, f10, iV, if_neg (by omega), if_neg (by omega), if_neg (by omega), if_neg (by omega), if_neg (by omega)]; exact x12.symm
    · exact FMT_c (aV 14 (by omega) (by omega) (by omega) (by omega) (by omega) (by omega) (by omega) (by omega)) (fV 7 (by unfold Qb Qf; omega) (by omega) (by omega) (by omega)) (aV 15 (by omega) (by omega) (by omega) (by omega) (by omega) (by omega) (by omega) (by omega)) (aV 8 (by omega) (by omega) (by omega) (by omega) (by omega) (by omega) (by omega) (by omega)) fm
    · refine ⟨0, 0, by omega, by omega, ?_, ?_, ?_, ?_, fun e he => absurd he (by omega)⟩
      · rw [(aZV j (by omega) (by omega) (by omega) 7).1, iZ, if_neg (by omega), if_neg (by omega), if_neg (by omega), if_pos ⟨rfl, rfl⟩]; rfl
      · rw [(aZV j (by omega) (by omega) (by omega) 8).1, iZ, if_neg (by omega), if_neg (by omega), if_pos ⟨rfl, rfl⟩]; rfl
      · rw [iV, if_neg (by omega), if_neg (by omega), if_neg (by omega), if_pos ⟨rfl, rfl⟩]; rfl
      · rw [iV, if_neg (by omega), if_neg (by omega), if_pos ⟨rfl, rfl⟩]; rfl
    · exact funext fun l => by rw [jV, if_pos rfl]
    · exact WS_w (fun f q hf hq => vu _ (by have := dvV.hf; omega)) (vu 11 (by omega)) dvV.ws
    · simp only [f_law_2, hx, hy, cl_n, if_true]
  · rw [u3] at f9
    rw [u4] at f10
    have n0 : ¬ nI c' = 0 := by rw [show (0 : Int32) = nI 0 from rfl, nI_eq (by omega) (by omega)]; omega
    have hx : f_X11_load S (ad 0) = some (-4, Y) := by
      unfold f_X11_load
      rw [lt_n, r6, ca, cl_n, lt_n, r_0_0 tA, lt_n, r6A, hrd, cl_n, hfin, cl_n, lt_n, f9, if_neg n0]
    obtain ⟨XA, X, a1, a2, a3, a4, a5, a6, a7⟩ := RL_pre mbY (by rw [f1Y]; exact i2) v3Y
    obtain ⟨X', x4, w1, w2⟩ := u7 X FU (show n + 1 ≤ 6000 by omega) a3 a5 a6
    obtain ⟨w2, u2, w3⟩ := w2
    have tX' := w2.1.t a3.1.1
    have g9 : ¬ gI (uI X' (ad 1) 9 0) (ad 1) 11 = 0 := by rw [gI_uI, if_neg (fun z => absurd z.2 (by decide)), w2.2.1]; exact n0
    have hy : f_X12_load Y (ad 1) = some (-4, uI X' (ad 1) 9 0) := by
      refine (ldE _ _ _ _ a1 a2).trans (w1.trans ?_)
      unfold ldK
      rw [lt_n, lt_n, if_neg g9]
    obtain ⟨V, hV⟩ : ∃ V, V = uI X' (ad 1) 9 0 := ⟨_, rfl⟩
    have x9 : RX X' V ad P0 (fun i => i = 9) := by rw [hV]; exact RX_u1 tX' rfl
    have sV : SR0 S V := sY.trans (a4.1.trans (w2.1.1.trans x9.1))
    have aYV : ∀ p, p ≠ 1 → p ≠ 3 → Ag Y V ad p := fun p q1 q3 => ((a4.2.1 p q1 q3).trans (w2.1.2.1 p q1 q3)).trans (x9.2.1 p q1 (fun z => z))
    have aV : ∀ p, p ≠ 0 → p ≠ 1 → p ≠ 3 → p ≠ 12 → ¬ (d ≤ p ∧ p ≤ d + 38) → Ag S V ad p := fun p q0 q1 q3 q4 q5 => (aY p q0 q4 q5).trans (aYV p q1 q3)
    have fV : ∀ i, ¬ Qb i → i ≠ 9 → gI V (ad 1) i = gI S (ad 1) i := fun i q1 q9 => by
      rw [x9.2.2 i q9, w2.1.2.2 i (fun z => q1 (by unfold Qb; exact Or.inr (Or.inr z))), a4.2.2 i q1, f1Y]
    have v3V : gJ V (ad 3) = dV v u2 := (funext fun l => (x9.2.1 3 (by decide) (fun z => z) l).2).trans w3
    have low : ∀ i, i < 15162 → dV v u2 i = v i := fun i hi => by unfold dV; rw [if_neg (by omega)]
    have cvV : CV V ad b v np nf no mo := CV_c sV (fun q hq => aV _ (by unfold BR at hq; omega) (by unfold BR at hq; omega) (by unfold BR at hq; omega) (by unfold BR at hq; omega) (by unfold BR at hq; omega)) cv
    refine ⟨V, c, ⟨b, d, j, k, dV v u2, np, nf, no, mo, CV_v (fun i hi => low i (by omega)) cvV, e1, e2, (sV.1 _ _).trans r6, (sV.1 _ _).trans r7, (sV.1 _ _).trans r8, ⟨SN1_v (by omega) low cv.hf ?_, SN1_v (by omega) low cv.hf ?_⟩, ?_, ?_, ?_, ?_, v3V, ?_⟩, by omega, fun kont => ?_⟩
    · exact SN1_c (aV 21 (by omega) (by omega) (by omega) (by omega) (by omega)) (aV 4 (by omega) (by omega) (by omega) (by omega) (by omega)) (fun q hq => aV _ (by omega) (by omega) (by omega) (by omega) (by omega)) sn.1
    · exact SN1_c (aV 21 (by omega) (by omega) (by omega) (by omega) (by omega)) (aV 4 (by omega) (by omega) (by omega) (by omega) (by omega)) (fun q hq => aV _ (by omega) (by omega) (by omega) (by omega) (by omega)) sn.2
    · refine ⟨0, by omega, ?_, ?_, fun i hi => absurd hi (by omega)⟩
      · rw [(aYV 12 (by omega) (by omega) 1).1, f1]; rfl
      · rw [hV, gI_uI, if_pos ⟨rfl, rfl⟩]; rfl
    · refine ⟨?_, ?_⟩
      · rw [(aYV 0 (by omega) (by omega) 9).1, f9, x9.2.2 11 (by decide)]; exact w2.2.1.symm
      · rw [(aYV 0 (by omega) (by omega) 10).1, f10, x9.2.2 12 (by decide)]; exact w2.2.2.symm
    · exact FMT_c (aV 14 (by omega) (by omega) (by omega) (by omega) (by omega)) (fV 7 (by unfold Qb Qf; omega) (by omega)) (aV 15 (by omega) (by omega) (by omega) (by omega) (by omega)) (aV 8 (by omega) (by omega) (by omega) (by omega) (by omega)) fm
    · exact JRN_c (aV j (by omega) (by omega) (by omega) (by omega) (by omega)) (fun q hq => aV _ (by omega) (by omega) (by omega) (by omega) (by omega)) (fV 19 (by unfold Qb Qf; omega) (by omega)) (fV 20 (by unfold Qb Qf; omega) (by omega)) (aV 10 (by omega) (by omega) (by omega) (by omega) (by omega)) jr
    · exact WS_w (fun f q hf hq => low _ (by have := cv.hf; omega)) (low 11 (by omega)) ws
    · rw [← hV] at hy
      simp only [f_law_2, hx, hy, cl_n, if_true]
