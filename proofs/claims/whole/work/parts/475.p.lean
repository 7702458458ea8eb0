/-! the pure part: readers by states, the reference -/
variable {S S0 S1 S2 S' S'' S3 X Y : St} {ad : Nat → Nat} {b d j k : Nat} {v v0 v' v1 v2 u w : Nat → Int64} {np nf no mo no' mo' x y : Nat}
def Qt (i : Nat) : Prop := i = 10 ∨ i = 13 ∨ i = 14 ∨ i = 15
def Qf (i : Nat) : Prop := 10 ≤ i ∧ i ≤ 15
/-- the reference: names of P and fields of Q changed -/
def RX (S S' : St) (ad : Nat → Nat) (P : Nat → Prop) (Q : Nat → Prop) : Prop := SR0 S S' ∧ (∀ p, p ≠ 1 → ¬ P p → Ag S S' ad p) ∧ ∀ i, ¬ Q i → gI S' (ad 1) i = gI S (ad 1) i
theorem RX.rf {P Q : Nat → Prop} : RX S S ad P Q := ⟨SR0.rf S, fun _ _ _ _ => ⟨rfl, rfl⟩, fun _ _ => rfl⟩
theorem RX.tr {P Q : Nat → Prop} (h : RX S S' ad P Q) (h2 : RX S' S'' ad P Q) : RX S S'' ad P Q := ⟨h.1.trans h2.1, fun p hp hn => (h.2.1 p hp hn).trans (h2.2.1 p hp hn), fun i hi => (h2.2.2 i hi).trans (h.2.2 i hi)⟩
theorem RX.mono {P Q P' Q' : Nat → Prop} (h : RX S S' ad P Q) (hp : ∀ p, P p → P' p) (hq : ∀ i, Q i → Q' i) : RX S S' ad P' Q' := ⟨h.1, fun p h1 hn => h.2.1 p h1 (fun e => hn (hp p e)), fun i hn => h.2.2 i (fun e => hn (hq i e))⟩
theorem RX.t {P Q : Nat → Prop} (h : RX S S' ad P Q) (t : TR S ad) : TR S' ad := TR_SR0 h.1 t
def P0 (_ : Nat) : Prop := False
theorem RX_u1 (t : TR S ad) {P Q : Nat → Prop} {i : Nat} {w : Int32} (hQ : Q i) : RX S (uI S (ad 1) i w) ad P Q := ⟨SR0_uI _ _ _ _, fun q h _ => Ag_uI t h, fun l hl => by rw [gI_uI, if_neg]; intro e; exact hl (e.2 ▸ hQ)⟩
theorem RX_uI (t : TR S ad) {P Q : Nat → Prop} {p i : Nat} {w : Int32} (h1 : p ≠ 1) (hP : P p) : RX S (uI S (ad p) i w) ad P Q := ⟨SR0_uI _ _ _ _, fun q _ hn => Ag_uI t (fun e => hn (e ▸ hP)), fun l _ => (Ag_uI t h1.symm l).1⟩
theorem RX_uJ (t : TR S ad) {P Q : Nat → Prop} {p i : Nat} {w : Int64} (hP : P p) : RX S (uJ S (ad p) i w) ad P Q := ⟨SR0_uJ _ _ _ _, fun q _ hn => Ag_uJ t (fun e => hn (e ▸ hP)), fun _ _ => rfl⟩
theorem rfS_self (S : St) (ad : Nat → Nat) : rfS S ad (gI S (ad 1)) (gJ S (ad 1) 16) = S := by
  rw [rfS, qI_self]
  unfold uJ
  have : up2 S.2.1 (ad 1) 16 (gJ S (ad 1) 16) = S.2.1 := by
    funext b j
    unfold up2
    by_cases h : b = ad 1
    · subst h
      by_cases h2 : j = 16
      · subst h2; rw [if_pos rfl, if_pos rfl]; rfl
      · rw [if_pos rfl, if_neg h2]
    · rw [if_neg h]
  rw [this]
theorem RX_rfS (t : TR S ad) {P Q : Nat → Prop} {M : Nat → Int32} {x : Int64} (h : ∀ i, ¬ Q i → M i = gI S (ad 1) i) : RX S (rfS S ad M x) ad P Q := ⟨(SR0_qI _ _ _).trans (SR0_uJ _ _ _ _), fun q h1 _ l => ⟨rfS_o t M x h1 l, by rw [rfS, gJ_uJ, if_neg (fun e => h1 ((t.1 _ _).mp e.1))]; rfl⟩, fun i hi => by rw [rfS_I]; exact h i hi⟩
/-- the reference has the token of e -/
def RS (S : St) (ad : Nat → Nat) (B : Nat → Int32) (n e : Nat) : Prop := MB S ad B n ∧ RT B (gI S (ad 1)) (gJ S (ad 1) 16) n e
/-- the reference has failed: code c at the place p -/
def RFl (S S' : St) (ad : Nat → Nat) (P Q : Nat → Prop) (c p : Nat) : Prop := RX S S' ad P Q ∧ gI S' (ad 1) 11 = nI c ∧ gI S' (ad 1) 12 = nI p
theorem RFl.mono {P Q P' Q' : Nat → Prop} {c p : Nat} (h : RFl S S' ad P Q c p) (hp : ∀ p, P p → P' p) (hq : ∀ i, Q i → Q' i) : RFl S S' ad P' Q' c p := ⟨h.1.mono hp hq, h.2⟩
theorem RFl.pre {P Q : Nat → Prop} {c p : Nat} (h0 : RX S S' ad P Q) (h : RFl S' S'' ad P Q c p) : RFl S S'' ad P Q c p := ⟨h0.tr h.1, h.2⟩
theorem RFl.post {P Q : Nat → Prop} {c p : Nat} (h : RFl S S' ad P Q c p) (h0 : RX S' S'' ad P (fun _ => False)) : RFl S S'' ad P Q c p := ⟨h.1.tr (h0.mono (fun _ z => z) (fun _ z => z.elim)), (h0.2.2 11 (fun z => z)).trans h.2.1, (h0.2.2 12 (fun z => z)).trans h.2.2⟩
theorem MB_c {B : Nat → Int32} {n : Nat} (hs : SR0 S S') (h : Ag S S' ad 9) (c : MB S ad B n) : MB S' ad B n := ⟨TR_SR0 hs c.1, c.2.1, fun i hi => ⟨(h i).1.trans (c.2.2 i hi).1, (c.2.2 i hi).2⟩⟩
theorem RS_c {B : Nat → Int32} {n e : Nat} (hs : SR0 S S') (h9 : Ag S S' ad 9) (hi : ∀ i, i = 9 ∨ i = 10 ∨ i = 13 ∨ i = 14 → gI S' (ad 1) i = gI S (ad 1) i) (hj : gJ S' (ad 1) 16 = gJ S (ad 1) 16) (r : RS S ad B n e) : RS S' ad B n e := by
  refine ⟨MB_c hs h9 r.1, ?_⟩
  obtain ⟨a1, a2, a3, a4, a5, a6, a7⟩ := r.2
  exact ⟨(hi 9 (by omega)).trans a1, (hi 14 (by omega)).trans a2, (hi 13 (by omega)).trans a3, fun z => (hi 10 (by omega)).trans (a4 z), fun z => hj.trans (a5 z), fun z => hj.trans (a6 z), a7⟩
theorem RS_uI {B : Nat → Int32} {n e p i : Nat} {w : Int32} (r : RS S ad B n e) (h1 : p ≠ 1) (h9 : p ≠ 9) : RS (uI S (ad p) i w) ad B n e := RS_c (SR0_uI _ _ _ _) (Ag_uI r.1.1 h9.symm) (fun l _ => (Ag_uI r.1.1 h1.symm l).1) rfl r
theorem RS_uJ {B : Nat → Int32} {n e p i : Nat} {w : Int64} (r : RS S ad B n e) (h1 : p ≠ 1) (h9 : p ≠ 9) : RS (uJ S (ad p) i w) ad B n e := RS_c (SR0_uJ _ _ _ _) (Ag_uJ r.1.1 h9.symm) (fun l _ => rfl) (Ag_uJ r.1.1 h1.symm 16).2 r
theorem RS_u1 {B : Nat → Int32} {n e i : Nat} {w : Int32} (r : RS S ad B n e) (hi : i ≠ 9 ∧ i ≠ 10 ∧ i ≠ 13 ∧ i ≠ 14) : RS (uI S (ad 1) i w) ad B n e := RS_c (SR0_uI _ _ _ _) (Ag_uI r.1.1 (by decide)) (fun l hl => by rw [gI_uI, if_neg (fun z => by omega)]) rfl r
theorem MB_rfS {B : Nat → Int32} {n : Nat} (h : MB S ad B n) (M : Nat → Int32) (x : Int64) : MB (rfS S ad M x) ad B n := ⟨rfS_t h.1 M x, h.2.1, fun i hi => by rw [rfS_o h.1 M x (by decide)]; exact h.2.2 i hi⟩
theorem RS_mk {B M : Nat → Int32} {x : Int64} {n e : Nat} (h : MB S ad B n) (r : RT B M x n e) : RS (rfS S ad M x) ad B n e := ⟨MB_rfS h M x, by rw [show gI (rfS S ad M x) (ad 1) = M from funext fun i => rfS_I S ad M x i, rfS_J]; exact r⟩
theorem rfF_i {M : Nat → Int32} {c p i : Nat} (h : ¬ Qf i) : rfF M c p i = M i := by
  unfold Qf at h
  rw [rfF, udt_n (by omega), udt_n (by omega)]
theorem RFl_mk {M : Nat → Int32} {x : Int64} {c p : Nat} (t : TR S ad) {P : Nat → Prop} (h : ∀ i, ¬ Qf i → M i = gI S (ad 1) i) : RFl S (rfS S ad (rfF M c p) x) ad P Qf c p := by
  refine ⟨RX_rfS t (fun i hi => (rfF_i hi).trans (h i hi)), ?_, ?_⟩
  · rw [rfS_I, rfF, udt_n (by decide), udt_e]
  · rw [rfS_I, rfF, udt_e]
theorem R_ad {B : Nat → Int32} {n e : Nat} (r : RS S ad B n e) (hk : tkK B n e ≠ 5) : ∃ S', f_X12_advance S (ad 1) = some S' ∧ RS S' ad B n (tkR B n e) ∧ RX S S' ad P0 Qt ∧ gI S' (ad 1) 15 = gI S (ad 1) 15 := by
  obtain ⟨M', x', h1, h2, h3, h4⟩ := M_ad (S := S) (M := gI S (ad 1)) (x := gJ S (ad 1) 16) r.1 r.2.1 (r.2.2.2.2.1 hk) (tkR_f (B := B) r.2.2.2.2.2.2.2).2.1
  rw [rfS_self] at h1
  exact ⟨_, h1, RS_mk r.1 h2, RX_rfS r.1.1 (fun i hi => h3 i (by unfold Qt at hi; omega) (by unfold Qt at hi; omega) (by unfold Qt at hi; omega) (by unfold Qt at hi; omega)), by rw [rfS_I, h4]⟩
theorem R_begin {B : Nat → Int32} {n : Nat} (h : MB S ad B n) (h9 : gI S (ad 1) 9 = nI n) : ∃ S', f_X12_beginText S (ad 1) = some S' ∧ RS S' ad B n 0 ∧ RX S S' ad P0 Qf ∧ gI S' (ad 1) 11 = 0 ∧ gI S' (ad 1) 12 = -1 := by
  have hb : MB (uI (uI (uI S (ad 1) 11 0) (ad 1) 12 (-1)) (ad 1) 10 0) ad B n := MB_c ((SR0_uI _ _ _ _).trans ((SR0_uI _ _ _ _).trans (SR0_uI _ _ _ _))) (fun i => ⟨by rw [gI_uI, if_neg (fun z => absurd ((h.1.1 _ _).mp z.1) (by decide)), gI_uI, if_neg (fun z => absurd ((h.1.1 _ _).mp z.1) (by decide)), gI_uI, if_neg (fun z => absurd ((h.1.1 _ _).mp z.1) (by decide))], rfl⟩) h
  obtain ⟨Z, hZ⟩ : ∃ Z, Z = uI (uI (uI S (ad 1) 11 0) (ad 1) 12 (-1)) (ad 1) 10 0 := ⟨_, rfl⟩
  have gz : ∀ i, gI Z (ad 1) i = if i = 10 then 0 else if i = 12 then -1 else if i = 11 then 0 else gI S (ad 1) i := fun i => by
    rw [hZ, gI_uI, gI_uI, gI_uI]
    by_cases h1 : i = 10 <;> by_cases h2 : i = 12 <;> by_cases h3 : i = 11 <;> simp [h1, h2, h3]
  have hx : RX S Z ad P0 Qf := by
    rw [hZ]
    exact ((RX_u1 h.1 (by unfold Qf; omega)).tr (RX_u1 (TR_SR0 (SR0_uI _ _ _ _) h.1) (by unfold Qf; omega))).tr (RX_u1 (TR_SR0 ((SR0_uI _ _ _ _).trans (SR0_uI _ _ _ _)) h.1) (by unfold Qf; omega))
  rw [← hZ] at hb
  obtain ⟨M', x', h1, h2, h3, h4⟩ := M_ad (S := Z) (M := gI Z (ad 1)) (x := gJ Z (ad 1) 16) (e := 0) hb (by rw [gz, if_neg (by decide), if_neg (by decide), if_neg (by decide)]; exact h9) (by rw [gz]; rfl) (by omega)
  rw [rfS_self] at h1
  refine ⟨_, ?_, RS_mk hb h2, hx.tr ((RX_rfS (Q := Qt) hb.1 (fun i hi => h3 i (by unfold Qt at hi; omega) (by unfold Qt at hi; omega) (by unfold Qt at hi; omega) (by unfold Qt at hi; omega))).mono (fun _ z => z) (fun i hi => by unfold Qt at hi; unfold Qf; omega)), ?_, ?_⟩
  · simp only [f_X12_beginText, lt_n]
    rw [← hZ, h1, cl_n]
  · rw [rfS_I, h3 11 (by decide) (by decide) (by decide) (by decide), gz]; rfl
  · rw [rfS_I, h3 12 (by decide) (by decide) (by decide) (by decide), gz]; rfl
theorem R_fail {B : Nat → Int32} {n e : Nat} (r : RS S ad B n e) {k : Nat} {i : Int32} (hi : i = nI k) : ∃ S', f_X12_fail S (ad 1) i = some (0, S') ∧ RFl S S' ad P0 Qf k (tkS B n e) := by
  have h := M_fail (S := S) (ad := ad) r.2 hi
  rw [rfS_self] at h
  exact ⟨_, h, RFl_mk r.1.1 (fun _ _ => rfl)⟩
theorem R_num {B : Nat → Int32} {n e a : Nat} (r : RS S ad B n e) (ha : a ≤ 1000000) (hi : Int32) {i : Int32} (hia : i = nI a) : (eNum B n e a hi = none ∧ ∃ S', f_X12_readNumber S (ad 1) i hi = some (1, S') ∧ RS S' ad B n (tkR B n e) ∧ RX S S' ad P0 Qt ∧ gI S' (ad 1) 15 = nI (vNum B n e a hi)) ∨ (∃ c, eNum B n e a hi = some (c, tkS B n e) ∧ (1 ≤ c ∧ c ≤ 5) ∧ ∃ S', f_X12_readNumber S (ad 1) i hi = some (0, S') ∧ RFl S S' ad P0 Qf c (tkS B n e)) := by
  subst hia
  rcases M_num (S := S) (ad := ad) r.1 r.2 ha hi with ⟨h1, M', x', h2, h3, h4, h5, h6⟩ | ⟨c, h1, h2, h3⟩
  · rw [rfS_self] at h2
    exact Or.inl ⟨h1, _, h2, RS_mk r.1 h3, RX_rfS r.1.1 (fun i hi => h4 i (by unfold Qt at hi; omega) (by unfold Qt at hi; omega) (by unfold Qt at hi; omega) (by unfold Qt at hi; omega)), by rw [rfS_I, h5, vNum, if_pos h1]⟩
  · rw [rfS_self] at h3
    exact Or.inr ⟨c, h1, h2, _, h3, RFl_mk r.1.1 (fun _ _ => rfl)⟩
theorem vNum_ok {B : Nat → Int32} {n e a : Nat} (he : e ≤ n) {h : Nat} (hh : h < 2 ^ 31) {hi : Int32} (hhi : hi = nI h) (hah : a ≤ h) : a ≤ vNum B n e a hi ∧ vNum B n e a hi ≤ h := by
  unfold vNum
  by_cases z : eNum B n e a hi = none
  · rw [if_pos z]
    unfold eNum at z
    by_cases hk : tkK B n e = 2
    · rw [if_pos hk] at z
      by_cases hr : a ≤ tkN B n e ∧ nI (tkN B n e) ≤ hi
      · refine ⟨hr.1, ?_⟩
        have := hr.2
        rw [hhi, nI_leI (by have := (tkN_f he hk).1; omega) hh] at this
        exact this
      · rw [if_neg hr] at z; simp at z
    · rw [if_neg hk] at z; simp at z
  · rw [if_neg z]; exact ⟨Nat.le_refl _, hah⟩
theorem R_end {B : Nat → Int32} {n e : Nat} (r : RS S ad B n e) : (eEnd B n e = none ∧ ∃ S', f_X12_readEnd S (ad 1) = some (1, S') ∧ RS S' ad B n (tkR B n e) ∧ RX S S' ad P0 Qt) ∨ (eEnd B n e = some (1, tkS B n e) ∧ ∃ S', f_X12_readEnd S (ad 1) = some (0, S') ∧ RFl S S' ad P0 Qf 1 (tkS B n e)) := by
  rcases M_end (S := S) (ad := ad) r.1 r.2 with ⟨h1, M', x', h2, h3, h4⟩ | ⟨h1, h3⟩
  · rw [rfS_self] at h2
    exact Or.inl ⟨h1, _, h2, RS_mk r.1 h3, RX_rfS r.1.1 (fun i hi => h4 i (by unfold Qt at hi; omega) (by unfold Qt at hi; omega) (by unfold Qt at hi; omega) (by unfold Qt at hi; omega))⟩
  · rw [rfS_self] at h3
    exact Or.inr ⟨h1, _, h3, RFl_mk r.1.1 (fun _ _ => rfl)⟩
theorem R_stat {B : Nat → Int32} {n e : Nat} (r : RS S ad B n e) : f_X12_statement S (ad 1) = some (stW B n e) := by
  have h := M_stat (S := S) (ad := ad) r.2
  rwa [rfS_self] at h
theorem R_entK {B : Nat → Int32} {n e : Nat} (r : RS S ad B n e) : f_X12_entryKind S (ad 1) = some (enW B n e) := by
  have h := M_entK (S := S) (ad := ad) r.2
  rwa [rfS_self] at h
theorem R_13 {B : Nat → Int32} {n e : Nat} (r : RS S ad B n e) {c : Nat} (hc : c ≤ 3) : (gI S (ad 1) 13 = nI c) = (tkK B n e = c) := by
  rw [r.2.2.2.1]; exact km_eq tkK_le hc
def rnmT (S : St) (p0 : Nat) (x2 x5 : Int32) : Option (Int32 × St) := jn (κ := St → Option (Int32 × St)) (fun S8 => some (x5, S8)) fun k9 => if x5 = (-1) then (jn (κ := Int32 → Option (Int32 × St)) (fun x12 => cl (f_X12_fail S p0 x12) fun (o15 : Int32 × St) => k9 o15.2) fun k13 => if x2 = 0 then (k13 1) else (k13 3)) else (cl (f_X12_advance S p0) fun (S11 : St) => k9 S11)
theorem rnmX (S : St) (p0 : Nat) (p1 : Int32) : f_X12_readName S p0 p1 = (lt (gI S p0 13) fun (v1 : Int32) => jn (κ := Int32 → Option (Int32 × St)) (fun x2 => jn (κ := Int32 → Option (Int32 × St)) (rnmT S p0 x2) fun k6 => if x2 = 0 then (k6 (-1)) else (lt (gJ S p0 16) fun (v16 : Int64) => cl (f_X12_named S p0 p1 v16) fun (v17 : Int32) => k6 v17)) fun k3 => jn (κ := Option (Int32 × St)) (k3 0) fun k18 => if v1 = 1 then (cl (f_X12_statement S p0) fun (v20 : Int32) => if v20 = (-1) then (k3 1) else (k18)) else (k18)) := by
  unfold f_X12_readName; rfl
theorem R_name {B : Nat → Int32} {n e : Nat} (r : RS S ad B n e) (hv : gJ S (ad 3) = v) {p : Nat} {i1 : Int32} (hp : p < 4) (h1 : i1 = nI p) (h2 : v (5054 * p + 2) = lN nf) (h8 : nf ≤ 8) : (eNm B n e (fun i => v (5054 * p + i)) nf true = none ∧ ∃ f S', f < nf ∧ nmX B n e (fun i => v (5054 * p + i)) nf = nI f ∧ f_X12_readName S (ad 1) i1 = some (nI f, S') ∧ RS S' ad B n (tkR B n e) ∧ RX S S' ad P0 Qt) ∨ (∃ c, eNm B n e (fun i => v (5054 * p + i)) nf true = some (c, tkS B n e) ∧ (1 ≤ c ∧ c ≤ 5) ∧ ∃ S', f_X12_readName S (ad 1) i1 = some (-1, S') ∧ RFl S S' ad P0 Qf c (tkS B n e)) := by
  have k1 : (gI S (ad 1) 13 = 1) = (tkK B n e = 1) := R_13 r (c := 1) (by omega)
  rw [rnmX]
  simp only [lt_n, k1, R_stat r, cl_n, jn_n, M_named r.1.1 hv hp h1 h2 h8, i10, if_false, if_true]
  unfold eNm
  by_cases hg : tkK B n e = 1 ∧ stW B n e = -1
  · rw [if_pos hg.1, if_pos hg.2, if_pos hg]
    have hx := r.2.2.2.2.2.1 hg.1
    have e1 : nmV (fun i => v (5054 * p + i)) (gJ S (ad 1) 16) nf 0 = nmX B n e (fun i => v (5054 * p + i)) nf := by rw [nmX, hx]
    rw [e1]
    by_cases hm : nmX B n e (fun i => v (5054 * p + i)) nf = -1
    · right
      obtain ⟨S', f1, f2⟩ := R_fail r (k := 3) (i := 3) rfl
      refine ⟨3, by rw [decide_eq_true hm, if_pos rfl], by omega, S', ?_, f2⟩
      simp only [rnmT, jn_n, hm, if_true, i10, if_false, f1, cl_n]
    · left
      obtain ⟨S', f1, f2, f3, -⟩ := R_ad r (by omega)
      rcases nmV_f (fun i => v (5054 * p + i)) (pkd (fun i => B (tkS B n e + i)) (tkR B n e - tkS B n e)) nf 0 with z | ⟨f, z1, z2⟩
      · exact absurd z hm
      · have z3 : nmX B n e (fun i => v (5054 * p + i)) nf = nI f := z2
        refine ⟨by rw [decide_eq_false hm, if_neg (by decide)], f, S', by omega, z3, ?_, f2, f3⟩
        rw [z3] at hm ⊢
        simp only [rnmT, jn_n, hm, if_false, f1, cl_n]
  · right
    obtain ⟨S', f1, f2⟩ := R_fail r (k := 1) (i := 1) rfl
    refine ⟨1, by rw [if_neg hg], by omega, S', ?_, f2⟩
    have e2 : rnmT S (ad 1) 0 (-1) = some (-1, S') := by simp only [rnmT, jn_n, if_true, f1, cl_n]
    by_cases h1 : tkK B n e = 1
    · rw [if_pos h1, if_neg (fun z => hg ⟨h1, z⟩)]; exact e2
    · rw [if_neg h1]; exact e2
