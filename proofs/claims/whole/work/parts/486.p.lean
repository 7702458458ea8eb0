/-! the pure part: a plan's statement -/
variable {S S0 S1 S2 S' S'' S3 X Y : St} {ad : Nat → Nat} {b d j k : Nat} {v v0 v' v1 v2 u u0 u' w : Nat → Int64} {np nf no mo no' mo' x y : Nat}
theorem tkS_s {B : Nat → Int32} {n e : Nat} (he : e ≤ n) : tkS B n (tkS B n e) = tkS B n e := run_x (tkS_f (B := B) he).2.2
theorem tk0_s {B : Nat → Int32} {n e : Nat} (he : e ≤ n) : tk0 B n (tkS B n e) = tk0 B n e := by unfold tk0; rw [tkS_s he]
theorem tkR_s {B : Nat → Int32} {n e : Nat} (he : e ≤ n) : tkR B n (tkS B n e) = tkR B n e := by unfold tkR; rw [tk0_s he, tkS_s he]
theorem tkK_s {B : Nat → Int32} {n e : Nat} (he : e ≤ n) : tkK B n (tkS B n e) = tkK B n e := by unfold tkK; rw [tk0_s he, tkR_s he, tkS_s he]
theorem tkN_s {B : Nat → Int32} {n e : Nat} (he : e ≤ n) : tkN B n (tkS B n e) = tkN B n e := by unfold tkN; rw [tkR_s he, tkS_s he]
theorem RS_s {B : Nat → Int32} {n e : Nat} (r : RS X ad B n e) : RS X ad B n (tkS B n e) := by
  have he := r.2.2.2.2.2.2.2
  obtain ⟨a1, a2, a3, a4, a5, a6, a7⟩ := r.2
  refine ⟨r.1, a1, ?_, ?_, ?_, ?_, ?_, (tkS_f (B := B) he).2.1⟩
  · rw [tkS_s he]; exact a2
  · rw [tkK_s he]; exact a3
  · rw [tkK_s he, tkR_s he]; exact a4
  · rw [tkK_s he, tkR_s he, tkS_s he]; exact a5
  · rw [tkK_s he, tkN_s he]; exact a6
theorem L_semi {B : Nat → Int32} {n e : Nat} {q : Option (Nat × Nat)} (h : LGs S ad B n e q) : ∃ S', f_X9_semicolonAhead S (ad 12) = some (bI (decide (tkK B n e = 3)), S') ∧ KCx S S' ad P12 ∧ LGs S' ad B n (tkS B n e) q := by
  obtain ⟨S1, a1, b1, c1⟩ := L_ad h
  have t1 := c1.1.1
  have he : e ≤ n := h.2.2.2.1
  have h3 : gI S1 (ad 12) 3 = nI (tkS B n e) := c1.2.2.2.1
  have k3 : (gI S1 (ad 12) 2 = 3) = (tkK B n e = 3) := L_2 c1 (c := 3) (by omega)
  have g : ∀ i, i ≠ 4 → gI (uI S1 (ad 12) 4 (nI (tkS B n e))) (ad 12) i = gI S1 (ad 12) i := fun i hi => by rw [gI_uI, if_neg (fun z => hi z.2)]
  refine ⟨uI S1 (ad 12) 4 (nI (tkS B n e)), ?_, b1.tr (KCx_uI t1 rfl), CB_c (SR0_uI _ _ _ _) (Ag_uI t1 (by decide)) c1.1, (g 1 (by decide)).trans c1.2.1, by rw [gI_uI, if_pos ⟨rfl, rfl⟩], (tkS_f (B := B) he).2.1, ER_cg (g 5 (by decide)) (g 6 (by decide)) c1.2.2.2.2.2.2.1⟩
  simp only [f_X9_semicolonAhead, a1, cl_n, lt_n, h3, g 2 (by decide), k3]
  by_cases z : tkK B n e = 3
  · rw [if_pos z, decide_eq_true z]; rfl
  · rw [if_neg z, decide_eq_false z]; rfl
/-! the ledger's plans -/
def asS (S : St) (ad : Nat → Nat) (d np t : Nat) (th : Int64) (r : Int32) : St := uI (uI (uJ S (ad (d + 10)) (np * 5 + t) th) (ad (d + 11)) (np * 5 + t) r) (ad (d + 9)) np (nI (t + 1))
theorem C_addSt {t : Nat} {th : Int64} {r : Int32} (tr : TR S ad) (hb : BB d) (h4 : gI S (ad (d + 1)) 4 = nI (np + 1)) (hp : np < 4) (h9 : gI S (ad (d + 9)) np = nI t) (ht : t ≤ 5) : f_X8_addStep S (ad (d + 1)) th r = some (if t < 5 then asS S ad d np t th r else S) := by
  have hd : d = 40 ∨ d = 80 ∨ d = 120 ∨ d = 160 := hb
  have e1 : nI (np + 1) - 1 = nI np := nI_pred np
  have n0 : ¬ nI np < 0 := nI_pos (by omega)
  have c5 : (nI t < 5) = (t < 5) := by rw [show (5 : Int32) = nI 5 from rfl]; exact propext (nI_ltI (by omega) (by decide))
  simp only [f_X8_addStep, lt_n, h4, e1, n0, if_false, r_b1_1 tr hb, lb9 tr hb hp, h9, c5]
  by_cases h : t < 5
  · have t1 : TR (uJ S (ad (d + 10)) (np * 5 + t) th) ad := TR_SR0 (SR0_uJ _ _ _ _) tr
    have t2 : TR (uI (uJ S (ad (d + 10)) (np * 5 + t) th) (ad (d + 11)) (np * 5 + t) r) ad := TR_SR0 (SR0_uI _ _ _ _) t1
    have g9 : gI (uI (uJ S (ad (d + 10)) (np * 5 + t) th) (ad (d + 11)) (np * 5 + t) r) (ad (d + 9)) np = nI t := by rw [gI_i tr.1, if_neg (by omega), gI_uJ]; exact h9
    have hi : np * 5 + t < 20 := by omega
    rw [if_pos h, if_pos h, um5, nI_add, r_b1_2 tr hb, sb10 tr hb hi, r_b1_3 t1 hb, sb11 t1 hb hi, r_b1_1 t2 hb, lb9 t2 hb hp, g9, da1, sb9 t2 hb hp]
    rfl
  · rw [if_neg h, if_neg h]
def apS (S : St) (ad : Nat → Nat) (d np : Nat) (a r : Int32) : St := asS (uI (uI (uI S (ad (d + 8)) np a) (ad (d + 9)) np 0) (ad (d + 1)) 4 (nI (np + 1))) ad d np 0 0 r
theorem C_addPl {a r : Int32} (tr : TR S ad) (hb : BB d) (h4 : gI S (ad (d + 1)) 4 = nI np) (hp : np < 4) : f_X8_addPlan S (ad (d + 1)) a r = some (apS S ad d np a r) := by
  have hd : d = 40 ∨ d = 80 ∨ d = 120 ∨ d = 160 := hb
  have c4 : nI np < (4 : Int32) := by rw [show (4 : Int32) = nI 4 from rfl, nI_ltI (by omega) (by decide)]; exact hp
  have t1 : TR (uI S (ad (d + 8)) np a) ad := TR_SR0 (SR0_uI _ _ _ _) tr
  have t2 : TR (uI (uI S (ad (d + 8)) np a) (ad (d + 9)) np 0) ad := TR_SR0 (SR0_uI _ _ _ _) t1
  have t3 : TR (uI (uI (uI S (ad (d + 8)) np a) (ad (d + 9)) np 0) (ad (d + 1)) 4 (nI (np + 1))) ad := TR_SR0 (SR0_uI _ _ _ _) t2
  have g1 : gI (uI S (ad (d + 8)) np a) (ad (d + 1)) 4 = nI np := by rw [gI_i tr.1, if_neg (by omega)]; exact h4
  have g2 : gI (uI (uI S (ad (d + 8)) np a) (ad (d + 9)) np 0) (ad (d + 1)) 4 = nI np := by rw [gI_i tr.1, if_neg (by omega)]; exact g1
  have g3 : gI (uI (uI (uI S (ad (d + 8)) np a) (ad (d + 9)) np 0) (ad (d + 1)) 4 (nI (np + 1))) (ad (d + 1)) 4 = nI (np + 1) := by rw [gI_i tr.1, if_pos ⟨rfl, rfl⟩]
  have g9 : gI (uI (uI (uI S (ad (d + 8)) np a) (ad (d + 9)) np 0) (ad (d + 1)) 4 (nI (np + 1))) (ad (d + 9)) np = nI 0 := by rw [gI_i tr.1, if_neg (by omega), gI_i tr.1, if_pos ⟨rfl, rfl⟩]; rfl
  have as := C_addSt (th := 0) (r := r) t3 hb g3 hp g9 (by omega)
  rw [if_pos (by decide)] at as
  simp only [f_X8_addPlan, lt_n, h4, c4, if_true, r_b1_0 tr hb, sb8 tr hb hp, r_b1_1 t1 hb, g1, sb9 t1 hb hp, g2, da1, as, cl_n]
  rfl
/-- what the ledger has changed since S0: plan np alone -/
def PC (S0 S : St) (ad : Nat → Nat) (d np : Nat) : Prop := SR0 S0 S ∧ (∀ p, ¬ (p = 12 ∨ p = d + 1 ∨ (d + 8 ≤ p ∧ p ≤ d + 11)) → Ag S0 S ad p) ∧ (∀ i, gJ S (ad (d + 1)) i = gJ S0 (ad (d + 1)) i) ∧ (∀ i, i ≠ 4 → gI S (ad (d + 1)) i = gI S0 (ad (d + 1)) i) ∧ (∀ p, p ≠ np → gI S (ad (d + 8)) p = gI S0 (ad (d + 8)) p ∧ gI S (ad (d + 9)) p = gI S0 (ad (d + 9)) p) ∧ ∀ i, i < 5 * np → gJ S (ad (d + 10)) i = gJ S0 (ad (d + 10)) i ∧ gI S (ad (d + 11)) i = gI S0 (ad (d + 11)) i
/-- the plan np in the making, with t tiers, on both sides -/
def PR (S : St) (ad : Nat → Nat) (d : Nat) (u : Nat → Int64) (np t : Nat) : Prop := gI S (ad (d + 9)) np = nI (t + 1) ∧ u (14 + 11 * np + 2) = lN t ∧ u (14 + 11 * np + 0) = (gI S (ad (d + 8)) np).toInt64 ∧ gJ S (ad (d + 10)) (5 * np) = 0 ∧ u (14 + 11 * np + 1) = (gI S (ad (d + 11)) (5 * np)).toInt64 ∧ ∀ j, j < t → u (14 + 11 * np + (3 + j)) = gJ S (ad (d + 10)) (5 * np + 1 + j) ∧ u (14 + 11 * np + (7 + j)) = (gI S (ad (d + 11)) (5 * np + 1 + j)).toInt64
def PV (S0 : St) (u0 : Nat → Int64) (S : St) (ad : Nat → Nat) (d : Nat) (u : Nat → Int64) (np t : Nat) : Prop := PC S0 S ad d np ∧ gI S (ad (d + 1)) 4 = nI (np + 1) ∧ t ≤ 4 ∧ PR S ad d u np t ∧ (∀ i, (i < 14 + 11 * np ∨ 14 + 11 * np + 11 ≤ i) → u i = u0 i) ∧ ∃ a, a ≤ 1000 ∧ u (14 + 11 * np + 0) = lN a
theorem PV_12 {t : Nat} (hd : d = 40 ∨ d = 80) (h : KCx S S' ad P12) (a : PV S0 u0 S ad d u np t) : PV S0 u0 S' ad d u np t := by
  have g : ∀ q, Ag S S' ad (d + q) := fun q => h.2 _ (by unfold P12; omega)
  obtain ⟨⟨p1, p2, p3, p4, p5, p6⟩, a4, at4, ⟨r1, r2, r3, r4, r5, r6⟩, au, aa⟩ := a
  refine ⟨⟨p1.trans h.1, fun p hp => (p2 p hp).trans (h.2 p (fun z => hp (Or.inl z))), fun i => (g 1 i).2.trans (p3 i), fun i hi => (g 1 i).1.trans (p4 i hi), fun p hp => ⟨(g 8 p).1.trans (p5 p hp).1, (g 9 p).1.trans (p5 p hp).2⟩, fun i hi => ⟨(g 10 i).2.trans (p6 i hi).1, (g 11 i).1.trans (p6 i hi).2⟩⟩, (g 1 4).1.trans a4, at4, ⟨(g 9 np).1.trans r1, r2, by rw [(g 8 np).1]; exact r3, (g 10 _).2.trans r4, by rw [(g 11 _).1]; exact r5, fun j hj => by rw [(g 10 _).2, (g 11 _).1]; exact r6 j hj⟩, au, aa⟩
theorem asS_k {t : Nat} {th : Int64} {r : Int32} (tr : TR S ad) : KCx S (asS S ad d np t th r) ad (fun p => d + 9 ≤ p ∧ p ≤ d + 11) := by
  unfold asS
  have k1 : KCx S (uJ S (ad (d + 10)) (np * 5 + t) th) ad (fun p => d + 9 ≤ p ∧ p ≤ d + 11) := KCx_uJ tr (by omega)
  have k2 := k1.tr (KCx_uI (p := d + 11) (i := np * 5 + t) (w := r) (k1.t tr) (by omega))
  exact k2.tr (KCx_uI (p := d + 9) (i := np) (w := nI (t + 1)) (k2.t tr) (by omega))
theorem asS_9 {t l : Nat} {th : Int64} {r : Int32} (tr : TR S ad) : gI (asS S ad d np t th r) (ad (d + 9)) l = if l = np then nI (t + 1) else gI S (ad (d + 9)) l := by
  rw [asS, gI_i tr.1]
  by_cases h : l = np
  · rw [if_pos ⟨rfl, h⟩, if_pos h]
  · rw [if_neg (fun z => h z.2), if_neg h, gI_i tr.1, if_neg (by omega), gI_uJ]
theorem asS_10 {t l : Nat} {th : Int64} {r : Int32} (tr : TR S ad) : gJ (asS S ad d np t th r) (ad (d + 10)) l = if l = np * 5 + t then th else gJ S (ad (d + 10)) l := by
  rw [asS, gJ_uI, gJ_uI, gJ_i tr.1]
  by_cases h : l = np * 5 + t
  · rw [if_pos ⟨rfl, h⟩, if_pos h]
  · rw [if_neg (fun z => h z.2), if_neg h]
theorem asS_11 {t l : Nat} {th : Int64} {r : Int32} (tr : TR S ad) : gI (asS S ad d np t th r) (ad (d + 11)) l = if l = np * 5 + t then r else gI S (ad (d + 11)) l := by
  rw [asS, gI_i tr.1, if_neg (by omega), gI_i tr.1]
  by_cases h : l = np * 5 + t
  · rw [if_pos ⟨rfl, h⟩, if_pos h]
  · rw [if_neg (fun z => h z.2), if_neg h, gI_uJ]
/-- one tier more -/
theorem PV_s {t w1 w2 : Nat} (hd : d = 40 ∨ d = 80) (hp : np < 4) (tr : TR S ad) (a : PV S0 u0 S ad d u np t) (ht : t < 4) (h1 : w1 < 2 ^ 31) (h2 : w2 < 2 ^ 31) : PV S0 u0 (asS S ad d np (t + 1) ((nI w1).toInt64 * 100) (nI w2)) ad d (udt (udt (udt u (14 + 11 * np + (3 + t)) (lN w1 * 100)) (14 + 11 * np + (7 + t)) ((nI w2).toInt64 * 1)) (14 + 11 * np + 2) (lN (t + 1))) np (t + 1) := by
  have kk := asS_k (d := d) (np := np) (t := t + 1) (th := (nI w1).toInt64 * 100) (r := nI w2) tr
  have a9 := fun l => asS_9 (d := d) (np := np) (t := t + 1) (l := l) (th := (nI w1).toInt64 * 100) (r := nI w2) tr
  have a10 := fun l => asS_10 (d := d) (np := np) (t := t + 1) (l := l) (th := (nI w1).toInt64 * 100) (r := nI w2) tr
  have a11 := fun l => asS_11 (d := d) (np := np) (t := t + 1) (l := l) (th := (nI w1).toInt64 * 100) (r := nI w2) tr
  generalize asS S ad d np (t + 1) ((nI w1).toInt64 * 100) (nI w2) = S' at kk a9 a10 a11
  have g : ∀ q, ¬ (9 ≤ q ∧ q ≤ 11) → Ag S S' ad (d + q) := fun q hq => kk.2 _ (fun (z : d + 9 ≤ d + q ∧ d + q ≤ d + 11) => by omega)
  obtain ⟨⟨p1, p2, p3, p4, p5, p6⟩, a4, at4, ⟨r1, r2, r3, r4, r5, r6⟩, au, aa⟩ := a
  have hu : ∀ i, i ≠ 14 + 11 * np + (3 + t) → i ≠ 14 + 11 * np + (7 + t) → i ≠ 14 + 11 * np + 2 → udt (udt (udt u (14 + 11 * np + (3 + t)) (lN w1 * 100)) (14 + 11 * np + (7 + t)) ((nI w2).toInt64 * 1)) (14 + 11 * np + 2) (lN (t + 1)) i = u i := fun i h1 h2 h3 => by rw [udt_n h3, udt_n h2, udt_n h1]
  refine ⟨⟨p1.trans kk.1, fun p hp => (p2 p hp).trans (kk.2 p (fun (z : d + 9 ≤ p ∧ p ≤ d + 11) => hp (by omega))), fun i => (g 1 (by omega) i).2.trans (p3 i), fun i hi => (g 1 (by omega) i).1.trans (p4 i hi), fun p hp => ⟨(g 8 (by omega) p).1.trans (p5 p hp).1, by rw [a9, if_neg hp]; exact (p5 p hp).2⟩, fun i hi => ⟨by rw [a10, if_neg (by omega)]; exact (p6 i hi).1, by rw [a11, if_neg (by omega)]; exact (p6 i hi).2⟩⟩, (g 1 (by omega) 4).1.trans a4, by omega, ⟨by rw [a9, if_pos rfl], by rw [udt_e], by rw [hu _ (by omega) (by omega) (by omega), (g 8 (by omega) np).1]; exact r3, by rw [a10, if_neg (by omega)]; exact r4, by rw [hu _ (by omega) (by omega) (by omega), a11, if_neg (by omega)]; exact r5, fun j hj => ?_⟩, fun i hi => by rw [hu _ (by omega) (by omega) (by omega)]; exact au i hi, by rw [hu _ (by omega) (by omega) (by omega)]; exact aa⟩
  by_cases e : j = t
  · subst e
    refine ⟨?_, ?_⟩
    · rw [udt_n (by omega), udt_n (by omega), udt_e, a10, if_pos (by omega), nI_l h1]
    · rw [udt_n (by omega), udt_e, a11, if_pos (by omega), l_m1 h2, nI_l h2]
  · rw [hu _ (by omega) (by omega) (by omega), hu _ (by omega) (by omega) (by omega), a10, if_neg (by omega), a11, if_neg (by omega)]
    exact r6 j (by omega)
/-- a new plan -/
theorem PV_0 {a r : Nat} (c : DV S ad d u np nf no) (hp : np < 4) (ha : a ≤ 1000) (hr : r < 2 ^ 31) : PV S u (apS S ad d np (nI a) (nI r)) ad d (udt (udt u (14 + 11 * np + 0) ((nI a).toInt64 * 1)) (14 + 11 * np + 1) ((nI r).toInt64 * 1)) np 0 := by
  have hd := c.hd
  have tr := c.t
  have k0 : KCx S (uI (uI (uI S (ad (d + 8)) np (nI a)) (ad (d + 9)) np 0) (ad (d + 1)) 4 (nI (np + 1))) ad (fun p => p = d + 1 ∨ p = d + 8 ∨ p = d + 9) := ((KCx_uI tr (Or.inr (Or.inl rfl))).tr (KCx_uI (TR_SR0 (SR0_uI _ _ _ _) tr) (Or.inr (Or.inr rfl)))).tr (KCx_uI (TR_SR0 ((SR0_uI _ _ _ _).trans (SR0_uI _ _ _ _)) tr) (Or.inl rfl))
  have t0 := k0.t tr
  have b1 : ∀ i, gI (uI (uI (uI S (ad (d + 8)) np (nI a)) (ad (d + 9)) np 0) (ad (d + 1)) 4 (nI (np + 1))) (ad (d + 1)) i = if i = 4 then nI (np + 1) else gI S (ad (d + 1)) i := fun i => by
    rw [gI_i tr.1]
    by_cases h : i = 4
    · rw [if_pos ⟨rfl, h⟩, if_pos h]
    · rw [if_neg (fun z => h z.2), if_neg h, gI_i tr.1, if_neg (by omega), gI_i tr.1, if_neg (by omega)]
  have b8 : ∀ i, gI (uI (uI (uI S (ad (d + 8)) np (nI a)) (ad (d + 9)) np 0) (ad (d + 1)) 4 (nI (np + 1))) (ad (d + 8)) i = if i = np then nI a else gI S (ad (d + 8)) i := fun i => by
    rw [gI_i tr.1, if_neg (by omega), gI_i tr.1, if_neg (by omega), gI_i tr.1]
    by_cases h : i = np
    · rw [if_pos ⟨rfl, h⟩, if_pos h]
    · rw [if_neg (fun z => h z.2), if_neg h]
  have b9 : ∀ i, i ≠ np → gI (uI (uI (uI S (ad (d + 8)) np (nI a)) (ad (d + 9)) np 0) (ad (d + 1)) 4 (nI (np + 1))) (ad (d + 9)) i = gI S (ad (d + 9)) i := fun i h => by
    rw [gI_i tr.1, if_neg (by omega), gI_i tr.1, if_neg (fun z => h z.2), gI_i tr.1, if_neg (by omega)]
  have bj : ∀ i, gJ (uI (uI (uI S (ad (d + 8)) np (nI a)) (ad (d + 9)) np 0) (ad (d + 1)) 4 (nI (np + 1))) (ad (d + 1)) i = gJ S (ad (d + 1)) i := fun i => rfl
  unfold apS
  generalize uI (uI (uI S (ad (d + 8)) np (nI a)) (ad (d + 9)) np 0) (ad (d + 1)) 4 (nI (np + 1)) = Z at k0 t0 b1 b8 b9 bj
  have kk := asS_k (d := d) (np := np) (t := 0) (th := 0) (r := nI r) t0
  have a9 := fun l => asS_9 (d := d) (np := np) (t := 0) (l := l) (th := 0) (r := nI r) t0
  have a10 := fun l => asS_10 (d := d) (np := np) (t := 0) (l := l) (th := 0) (r := nI r) t0
  have a11 := fun l => asS_11 (d := d) (np := np) (t := 0) (l := l) (th := 0) (r := nI r) t0
  generalize asS Z ad d np 0 0 (nI r) = S' at kk a9 a10 a11
  have g : ∀ q, ¬ (9 ≤ q ∧ q ≤ 11) → Ag Z S' ad (d + q) := fun q hq => kk.2 _ (fun (z : d + 9 ≤ d + q ∧ d + q ≤ d + 11) => by omega)
  have gz : ∀ q, ¬ (q = 1 ∨ q = 8 ∨ q = 9) → Ag S Z ad (d + q) := fun q hq => k0.2 _ (fun (z : d + q = d + 1 ∨ d + q = d + 8 ∨ d + q = d + 9) => by omega)
  have z2 := c.Z.2.1
  refine ⟨⟨k0.1.trans kk.1, fun p hp => (k0.2 p (fun (z : p = d + 1 ∨ p = d + 8 ∨ p = d + 9) => hp (by omega))).trans (kk.2 p (fun (z : d + 9 ≤ p ∧ p ≤ d + 11) => hp (by omega))), fun i => (g 1 (by omega) i).2.trans (bj i), fun i hi => (g 1 (by omega) i).1.trans (by rw [b1, if_neg hi]), fun p hp => ⟨(g 8 (by omega) p).1.trans (by rw [b8, if_neg hp]), by rw [a9, if_neg hp]; exact b9 p hp⟩, fun i hi => ⟨by rw [a10, if_neg (by omega)]; exact (gz 10 (by omega) i).2, by rw [a11, if_neg (by omega)]; exact (gz 11 (by omega) i).1⟩⟩, (g 1 (by omega) 4).1.trans (by rw [b1, if_pos rfl]), by omega, ⟨by rw [a9, if_pos rfl], ?_, ?_, by rw [a10, if_pos (by omega)], ?_, fun j hj => absurd hj (by omega)⟩, fun i hi => by rw [udt_n (by omega), udt_n (by omega)], a, ha, ?_⟩
  · rw [udt_n (by omega), udt_n (by omega)]; exact z2 np 2 (Nat.le_refl _) hp (by omega)
  · rw [udt_n (by omega), udt_e, (g 8 (by omega) np).1, b8, if_pos rfl, l_m1 (by omega), nI_l (by omega)]
  · rw [udt_e, a11, if_pos (by omega), l_m1 hr, nI_l hr]
  · rw [udt_n (by omega), udt_e, l_m1 (by omega)]
/-- the plan is made -/
theorem DV_pl {t : Nat} (c : DV S0 ad d u0 np nf no) (hp : np < 4) (a : PV S0 u0 S ad d u np t) : DV S ad d (udt u 1 (lN (np + 1))) (np + 1) nf no := by
  have h8 := c.hf
  have hd := c.hd
  have ho := c.ho
  obtain ⟨⟨p1, p2, p3, p4, p5, p6⟩, a4, at4, ⟨r1, r2, r3, r4, r5, r6⟩, au, aa⟩ := a
  have hv : ∀ i, i ≠ 1 → (i < 14 + 11 * np ∨ 14 + 11 * np + 11 ≤ i) → udt u 1 (lN (np + 1)) i = u0 i := fun i h1 h2 => by rw [udt_n h1]; exact au i h2
  have hr : ∀ q, udt u 1 (lN (np + 1)) (14 + 11 * np + q) = u (14 + 11 * np + q) := fun q => udt_n (by omega)
  have A : ∀ q, ¬ (q = 1 ∨ (8 ≤ q ∧ q ≤ 11)) → Ag S0 S ad (d + q) := fun q hq => p2 _ (by omega)
  have v1 : udt u 1 (lN (np + 1)) 1 = lN (np + 1) := udt_e _ _ _
  generalize udt u 1 (lN (np + 1)) = w at hv hr v1
  obtain ⟨w1, wp, wf, wo, wc, wd, ws, wr⟩ := c.w
  obtain ⟨z1, z2, z3, z4⟩ := c.Z
  obtain ⟨q1, q4, q5, q6, q7, q8, q9, q10, qp⟩ := c.T
  refine ⟨⟨TR_SR0 p1 c.t, trivial, v1, by rw [hv 2 (by omega) (by omega)]; exact c.u2, by rw [hv 3 (by omega) (by omega)]; exact c.u3, by rw [hv 0 (by omega) (by omega)]; exact c.u0, by omega, h8, ho, by omega⟩, hd, ⟨?_, fun q hq => ?_, fun g hg => ?_, fun o hoo => ?_, fun i hi => by rw [hv _ (by omega) (by omega)]; exact wc i hi, fun i hi => by rw [hv _ (by omega) (by omega)]; exact wd i hi, ?_, fun k g hk hg => absurd hk (by omega)⟩, WS_w (fun f q hf hq => hv _ (by omega) (by omega)) (hv 11 (by omega) (by omega)) c.ws, ⟨a4, by rw [hv 4 (by omega) (by omega), p4 5 (by omega)]; exact q4, by rw [hv 5 (by omega) (by omega), p3 6]; exact q5, by rw [hv 6 (by omega) (by omega), p4 7 (by omega)]; exact q6, by rw [hv 7 (by omega) (by omega), p4 8 (by omega)]; exact q7, by rw [hv 8 (by omega) (by omega), p3 9]; exact q8, by rw [hv 9 (by omega) (by omega), p4 10 (by omega)]; exact q9, by rw [hv 10 (by omega) (by omega), p4 11 (by omega)]; exact q10, fun q hq => ?_⟩, AXG_w (fun i hi => hv i (by omega) (by omega)) (AXG_c (A 12 (by omega)) c.G), AXO_w (fun i hi => hv i (by omega) (by omega)) ho (AXO_c (fun q h => A q (by omega)) c.O), AXN_w (fun f hf => hv _ (by omega) (by omega)) (AXN_c (fun q h => A q (by omega)) c.N), AXF_w (fun f q hf h => hv _ (by omega) (by omega)) (AXF_c (fun q h => A q (by omega)) c.F), AXR_w (fun f q hf h => hv _ (by omega) (by omega)) (AXR_c (fun q h => A q (by omega)) c.R), AXB_w (fun i hi => hv i (by omega) (by omega)) (fun f q hf h => hv _ (by omega) (by omega)) h8 (by omega) (AXB_c (fun q h => A q (by omega)) c.B), ZR_c (fun q h => A q (by omega)) ⟨fun f q h1 h2 h3 => by rw [hv _ (by omega) (by omega)]; exact z1 f q h1 h2 h3, fun p q h1 h2 h3 => by rw [hv _ (by omega) (by omega)]; exact z2 p q (by omega) h2 h3, fun o h => by rw [hv _ (by omega) (by omega)]; exact z3 o h, z4⟩⟩
  · rw [hv 4 (by omega) (by omega), hv 5 (by omega) (by omega), hv 6 (by omega) (by omega), hv 7 (by omega) (by omega), hv 8 (by omega) (by omega), hv 9 (by omega) (by omega)]; exact w1
  · by_cases e : q = np
    · subst e; rw [hr 0]; exact aa
    · rw [hv _ (by omega) (by omega)]; exact wp q (by omega)
  · rw [hv _ (by omega) (by omega), hv _ (by omega) (by omega), hv _ (by omega) (by omega), hv _ (by omega) (by omega)]
    obtain ⟨⟨pl, g1, g2⟩, g3⟩ := wf g hg
    exact ⟨⟨pl, by omega, g2⟩, g3⟩
  · obtain ⟨⟨x', y', hx', hy', e1, e2, e3⟩, s, hs, e4⟩ := wo o hoo
    rw [hv (186 + 4 * o + 0) (by omega) (by omega), hv (186 + 4 * o + 1) (by omega) (by omega), hv (186 + 4 * o + 2) (by omega) (by omega), hv (186 + 4 * o + 3) (by omega) (by omega)]
    refine ⟨⟨x', y', hx', hy', e1, e2, ?_⟩, s, hs, e4⟩
    rw [hv (250 + (30 * y' + x')) (by omega) (by omega)]; exact e3
  · rw [hv 11 (by omega) (by omega), hv 12 (by omega) (by omega), hv 13 (by omega) (by omega)]; exact ws
  · by_cases e : q = np
    · subst e
      refine ⟨t, at4, r1, (hr 2).trans r2, (hr 0).trans r3, r4, (hr 1).trans r5, fun j hj => ?_⟩
      rw [hr, hr]; exact r6 j hj
    · obtain ⟨t', ht', e1, e2, e3, e4, e5, e6⟩ := qp q (by omega)
      refine ⟨t', ht', (p5 q e).2.trans e1, by rw [hv _ (by omega) (by omega)]; exact e2, by rw [hv _ (by omega) (by omega), (p5 q e).1]; exact e3, (p6 _ (by omega)).1.trans e4, by rw [hv _ (by omega) (by omega), (p6 _ (by omega)).2]; exact e5, fun j hj => ?_⟩
      rw [hv _ (by omega) (by omega), hv _ (by omega) (by omega), (p6 _ (by omega)).1, (p6 _ (by omega)).2]
      exact e6 j hj
/-! the loops over tiers -/
def plB (p0 p1 : Nat) (k8 : Int32 → Int32 → St → Option St) (x5 x6 : Int32) (S7 : St) : Option St := if 4 < x6 then (some S7) else (cl (f_X9_failed S7 p0) fun (v10 : Int32) => if v10 = 0 then (cl (f_X9_semicolonAhead S7 p0) fun (o11 : Int32 × St) => if o11.1 = 0 then (cl (f_X9_readNumber o11.2 p0 x5 99999) fun (o12 : Int32 × St) => jn (κ := St → Option (St)) (fun S13 => cl (f_X9_readNumber S13 p0 0 3000) fun (o16 : Int32 × St) => cl (f_X8_addStep o16.2 p1 ((Int32.toInt64 o12.1) * 100) o16.1) fun (S17 : St) => lt (o12.1 + 1) fun (v18 : Int32) => k8 v18 (x6 + 1) S17) fun k14 => if x6 = 4 then (cl (f_X9_fail o12.2 p0 4) fun (S19 : St) => k14 S19) else (k14 o12.2)) else (some o11.2)) else (some S7))
theorem plE (S : St) (p0 p1 : Nat) : f_X7_readPlan S p0 p1 = (lt (gI S p1 4) fun (v1 : Int32) => if v1 < 4 then (cl (f_X9_readNumber S p0 0 1000) fun (o2 : Int32 × St) => cl (f_X9_readNumber o2.2 p0 0 3000) fun (o3 : Int32 × St) => cl (f_X8_addPlan o3.2 p1 o2.1 o3.1) fun (S4 : St) => lp (κ := Int32 → Int32 → St → Option (St)) (fun _ _ _ => none) (plB p0 p1) FU 1 0 S4) else (cl (f_X9_fail S p0 4) fun (S20 : St) => some S20)) := by
  unfold f_X7_readPlan; rfl
def mpU (p0 : Nat) (S15 : St) : Option (Int32 × St) := lt (gR S15 p0 0) fun (a18 : Nat) => ldJ S15 a18 15163 fun (v20 : Int64) => stJ S15 a18 15163 (v20 + 1) fun (S21 : St) => cl (f_X12_readEnd S21 p0) fun (o22 : Int32 × St) => zc o22.1 (some (o22.1, o22.2))
def mpF (p0 : Nat) (c : Int32) (S11 : St) : Option (Int32 × St) := cl (f_X12_fail S11 p0 c) fun (o14 : Int32 × St) => zc o14.1 (some (o14.1, o14.2))
def mpB (p0 : Nat) (v8 : Int32) (k30 : Int32 → Int32 → St → Option (Int32 × St)) (x27 x28 : Int32) (S29 : St) : Option (Int32 × St) := lt (gI S29 p0 13) fun (v32 : Int32) => if v32 = 2 then (lt (gJ S29 p0 16) fun (v33 : Int64) => cl (f_X12_inRange S29 v33 (Int32.toInt64 x27) 99999) fun (v34 : Int32) => if v34 = 0 then (mpF p0 2 S29) else (if x28 = 4 then (mpF p0 4 S29) else (lt (gJ S29 p0 16) fun (v35 : Int64) => lt ((Int64.toInt32 v35) + 1) fun (v36 : Int32) => lt (gR S29 p0 0) fun (a37 : Nat) => lt (gJ S29 p0 16) fun (v39 : Int64) => stJ S29 a37 ((v8 + 3) + x28) (v39 * 100) fun (S40 : St) => cl (f_X12_advance S40 p0) fun (S41 : St) => cl (f_X12_readInto S41 p0 ((v8 + 7) + x28) 0 3000 1) fun (o42 : Int32 × St) => if o42.1 = 0 then (some (0, o42.2)) else (lt (gR o42.2 p0 0) fun (a43 : Nat) => ldJ o42.2 a43 (v8 + 2) fun (v45 : Int64) => stJ o42.2 a43 (v8 + 2) (v45 + 1) fun (S46 : St) => k30 v36 (x28 + 1) S46)))) else (mpU p0 S29)
theorem mpE (S : St) (p0 : Nat) (v8 : Int32) (X : St) (W : Option (Int32 × St)) (h : (jn (κ := St → Option (Int32 × St)) (fun S11 => cl (f_X12_fail S11 p0 4) fun (o14 : Int32 × St) => zc o14.1 (some (o14.1, o14.2))) fun k12 => jn (κ := St → Option (Int32 × St)) (fun S15 => lt (gR S15 p0 0) fun (a18 : Nat) => ldJ S15 a18 15163 fun (v20 : Int64) => stJ S15 a18 15163 (v20 + 1) fun (S21 : St) => cl (f_X12_readEnd S21 p0) fun (o22 : Int32 × St) => zc o22.1 (some (o22.1, o22.2))) fun k16 => jn (κ := St → Option (Int32 × St)) (fun S23 => cl (f_X12_fail S23 p0 2) fun (o26 : Int32 × St) => zc o26.1 (some (o26.1, o26.2))) fun k24 => lp (κ := Int32 → Int32 → St → Option (Int32 × St)) (fun _ _ _ => none) (fun k30 x27 x28 S29 => lt (gI S29 p0 13) fun (v32 : Int32) => if v32 = 2 then (lt (gJ S29 p0 16) fun (v33 : Int64) => cl (f_X12_inRange S29 v33 (Int32.toInt64 x27) 99999) fun (v34 : Int32) => if v34 = 0 then (k24 S29) else (if x28 = 4 then (k12 S29) else (lt (gJ S29 p0 16) fun (v35 : Int64) => lt ((Int64.toInt32 v35) + 1) fun (v36 : Int32) => lt (gR S29 p0 0) fun (a37 : Nat) => lt (gJ S29 p0 16) fun (v39 : Int64) => stJ S29 a37 ((v8 + 3) + x28) (v39 * 100) fun (S40 : St) => cl (f_X12_advance S40 p0) fun (S41 : St) => cl (f_X12_readInto S41 p0 ((v8 + 7) + x28) 0 3000 1) fun (o42 : Int32 × St) => if o42.1 = 0 then (some (0, o42.2)) else (lt (gR o42.2 p0 0) fun (a43 : Nat) => ldJ o42.2 a43 (v8 + 2) fun (v45 : Int64) => stJ o42.2 a43 (v8 + 2) (v45 + 1) fun (S46 : St) => k30 v36 (x28 + 1) S46)))) else (k16 S29)) FU 1 0 X) = W) : lp (κ := Int32 → Int32 → St → Option (Int32 × St)) (fun _ _ _ => none) (mpB p0 v8) FU 1 0 X = W := by
  rw [← h]
  refine Eq.symm ?_
  refine (jn_n _ _).trans ?_
  refine (jn_n _ _).trans ?_
  exact jn_n _ _
theorem PLP {B : Nat → Int32} {n : Nat} (c0 : DV S0 ad d u0 np nf no) (hp : np < 4) : ∀ (m i e L F : Nat) (S : St) (u : Nat → Int64), i + m = 5 → 1 ≤ m → m < F → LGs S ad B n e none → 1 ≤ L → L ≤ 100000 → PV S0 u0 S ad d u np i → ∃ S', lp (κ := Int32 → Int32 → St → Option (St)) (fun _ _ _ => none) (plB (ad 12) (ad (d + 1))) F (nI L) (nI i) S = some S' ∧ KCx S S' ad (PD d) ∧ ((∃ e' u' t, e ≤ e' ∧ LGs S' ad B n e' none ∧ PV S0 u0 S' ad d u' np t ∧ ∀ X G, m < G → RS X ad B n e → gJ X (ad 3) = dV v u → ∃ X', lp (κ := Int32 → Int32 → St → Option (Int32 × St)) (fun _ _ _ => none) (mpB (ad 1) (nI (15176 + 11 * np))) G (nI L) (nI i) X = mpU (ad 1) X' ∧ RD X X' ad B n e' v u') ∨ (∃ c p e', e ≤ e' ∧ LGs S' ad B n e' (some (c, p)) ∧ ∀ X G, m < G → RS X ad B n e → gJ X (ad 3) = dV v u → ∃ X', lp (κ := Int32 → Int32 → St → Option (Int32 × St)) (fun _ _ _ => none) (mpB (ad 1) (nI (15176 + 11 * np))) G (nI L) (nI i) X = some (0, X') ∧ RFd X X' ad v c p)) := by
  have hd := c0.hd
  have hb := c0.hb
  intro m
  induction m with
  | zero => intro i e L F S u _ h; omega
  | succ m ih =>
    intro i e L F S u him _ hF hL hL1 hL2 pv
    obtain ⟨F, rfl⟩ : ∃ F', F = F' + 1 := ⟨F - 1, by omega⟩
    have he : e ≤ n := hL.2.2.2.1
    have n4 : ¬ (4 : Int32) < nI i := by rw [show (4 : Int32) = nI 4 from rfl, nI_ltI (by omega) (by omega)]; omega
    have hf0 : f_X9_failed S (ad 12) = some 0 := LGs_failed hL
    obtain ⟨S1, a1, b1, l1⟩ := L_semi hL
    have pv1 := PV_12 hd b1 pv
    have k1 : KCx S S1 ad (PD d) := b1.mono (fun _ z => Or.inl z)
    obtain ⟨es, hes⟩ : ∃ es, es = tkS B n e := ⟨_, rfl⟩
    have s0 := tkS_f (B := B) he
    have kes : tkK B n es = tkK B n e := by rw [hes]; exact tkK_s he
    rw [← hes] at l1 s0
    have rs : ∀ X, RS X ad B n e → RS X ad B n es := fun X r => by rw [hes]; exact RS_s r
    rw [lp_s]
    by_cases h3 : tkK B n e = 3
    · refine ⟨S1, ?_, k1, Or.inl ⟨es, u, i, s0.1, l1, pv1, fun X G hG r hv => ?_⟩⟩
      · rw [decide_eq_true h3, bI_t] at a1
        simp only [plB, n4, if_false, hf0, cl_n, if_true, a1, i10]
      · obtain ⟨G, rfl⟩ : ∃ G', G = G' + 1 := ⟨G - 1, by omega⟩
        have k13 : (gI X (ad 1) 13 = 2) = (tkK B n e = 2) := R_13 r (c := 2) (by omega)
        have k2 : ¬ tkK B n e = 2 := by omega
        refine ⟨X, ?_, RD.rf (rs X r) hv⟩
        rw [lp_s]
        simp only [mpB, lt_n, k13, k2, if_false]
    · rw [decide_eq_false h3, bI_f] at a1
      have y0 := tkR_le (B := B) s0.2.1
      obtain ⟨S2, a2, b2, c2⟩ := L_num l1 (a := L) (by omega) 99999 (i := nI L) rfl
      rw [qor_0] at c2
      obtain ⟨w1, hw1⟩ : ∃ w, w = vNum B n es L 99999 := ⟨_, rfl⟩
      have rw1 : w1 ≤ 100000 := by
        rw [hw1]
        unfold vNum
        by_cases z : eNum B n es L 99999 = none
        · rw [if_pos z]
          unfold eNum at z
          by_cases hk : tkK B n es = 2
          · rw [if_pos hk] at z
            by_cases hr : L ≤ tkN B n es ∧ nI (tkN B n es) ≤ 99999
            · have h1 := (tkN_f s0.2.1 hk).1
              have h2 := hr.2
              rw [show (99999 : Int32) = nI 99999 from rfl, nI_leI (by omega) (by decide)] at h2
              omega
            · rw [if_neg hr] at z; simp at z
          · rw [if_neg hk] at z; simp at z
        · rw [if_neg z]; exact hL2
      rw [← hw1] at a2
      obtain ⟨S3, e3, b3, c3⟩ : ∃ S3, (if nI i = 4 then (cl (f_X9_fail S2 (ad 12) 4) fun (S19 : St) => some S19) else some S2) = some S3 ∧ KCx S2 S3 ad P12 ∧ LGt S3 ad B n es (qor (eNum B n es L 99999) (if i = 4 then some (4, tkS B n es) else none)) := by
        by_cases hi4 : i = 4
        · subst hi4
          obtain ⟨S3, f1, f2, f3⟩ := L_fail c2 (k := 4) (by omega) (i := 4) rfl
          refine ⟨S3, ?_, f2, by rw [if_pos rfl]; exact f3⟩
          rw [if_pos (show nI 4 = (4 : Int32) from rfl), f1, cl_n]
        · have n4' : ¬ nI i = (4 : Int32) := by rw [show (4 : Int32) = nI 4 from rfl, nI_eq (by omega) (by omega)]; exact hi4
          refine ⟨S2, by rw [if_neg n4'], KCx.rf, by rw [if_neg hi4, qor_n]; exact c2⟩
      obtain ⟨er, her⟩ : ∃ er, er = tkR B n es := ⟨_, rfl⟩
      have l3 := c3.ls
      rw [← her] at l3 y0
      have y1 := tkR_le (B := B) y0.2
      obtain ⟨S4, a4, b4, c4⟩ := L_num l3 (a := 0) (by omega) 3000 (i := 0) rfl
      obtain ⟨w2, hw2⟩ : ∃ w, w = vNum B n er 0 3000 := ⟨_, rfl⟩
      have rw2 := (vNum_ok (B := B) (a := 0) y0.2 (show 3000 < 2 ^ 31 by decide) (hi := 3000) rfl (by omega)).2
      rw [← hw2] at a4 rw2
      have pv4 := PV_12 hd b4 (PV_12 hd b3 (PV_12 hd b2 pv1))
      have t4 := c4.1.1
      have as := C_addSt (th := (nI w1).toInt64 * 100) (r := nI w2) t4 hb pv4.2.1 hp pv4.2.2.2.1.1 (by omega)
      obtain ⟨S5, hS5⟩ : ∃ S5, S5 = (if i + 1 < 5 then asS S4 ad d np (i + 1) ((nI w1).toInt64 * 100) (nI w2) else S4) := ⟨_, rfl⟩
      rw [← hS5] at as
      have k5 : KCx S4 S5 ad (fun p => d + 9 ≤ p ∧ p ≤ d + 11) := by
        rw [hS5]
        by_cases z : i + 1 < 5
        · rw [if_pos z]; exact asS_k t4
        · rw [if_neg z]; exact KCx.rf
      have kA := (k1.tr ((b2.tr (b3.tr b4)).mono (fun _ z => Or.inl z))).tr (k5.mono (Q := PD d) (fun p (z : d + 9 ≤ p ∧ p ≤ d + 11) => Or.inr (by omega)))
      have l5 := LGs_c k5 (by omega) (by omega) c4.ls
      have step : plB (ad 12) (ad (d + 1)) (lp (κ := Int32 → Int32 → St → Option (St)) (fun _ _ _ => none) (plB (ad 12) (ad (d + 1))) F) (nI L) (nI i) S = lp (κ := Int32 → Int32 → St → Option (St)) (fun _ _ _ => none) (plB (ad 12) (ad (d + 1))) F (nI (w1 + 1)) (nI (i + 1)) S5 := by
        by_cases hi4 : nI i = (4 : Int32)
        · rw [if_pos hi4] at e3
          have e3' : f_X9_fail S2 (ad 12) 4 = some S3 := by
            cases z : f_X9_fail S2 (ad 12) 4 with
            | none => rw [z] at e3; exact absurd e3 (by intro q; cases q)
            | some y => rw [z, cl_n] at e3; exact e3
          simp only [plB, n4, if_false, hf0, cl_n, if_true, a1, a2, jn_n, hi4, e3', a4, as, lt_n, da1]
          have ir : ¬ nI i < nI i := by rw [nI_ltI (by omega) (by omega)]; omega
          rw [← hi4, da1, if_neg ir]
        · rw [if_neg hi4] at e3
          injection e3 with e3'
          simp only [plB, n4, if_false, hf0, cl_n, if_true, a1, a2, jn_n, hi4, e3', a4, as, lt_n, da1]
      obtain ⟨Q, hQ⟩ : ∃ Q, Q = qor (qor (eNum B n es L 99999) (if i = 4 then some (4, tkS B n es) else none)) (eNum B n er 0 3000) := ⟨_, rfl⟩
      rw [← hQ] at l5
      rw [step]
      have ix3 : nI (15176 + 11 * np) + 3 + nI i = nI (15162 + (14 + 11 * np + (3 + i))) := by rw [show (3 : Int32) = nI 3 from rfl, nI_add, nI_add, show 15176 + 11 * np + 3 + i = 15162 + (14 + 11 * np + (3 + i)) by omega]
      have ix7 : nI (15176 + 11 * np) + 7 + nI i = nI (15162 + (14 + 11 * np + (7 + i))) := by rw [show (7 : Int32) = nI 7 from rfl, nI_add, nI_add, show 15176 + 11 * np + 7 + i = 15162 + (14 + 11 * np + (7 + i)) by omega]
      have ix2 : nI (15176 + 11 * np) + 2 = nI (15162 + (14 + 11 * np + 2)) := by rw [show (2 : Int32) = nI 2 from rfl, nI_add, show 15176 + 11 * np + 2 = 15162 + (14 + 11 * np + 2) by omega]
      cases hq : Q with
      | some cp =>
        obtain ⟨cc, p⟩ := cp
        rw [hq] at l5
        have stop : lp (κ := Int32 → Int32 → St → Option (St)) (fun _ _ _ => none) (plB (ad 12) (ad (d + 1))) F (nI (w1 + 1)) (nI (i + 1)) S5 = some S5 := by
          obtain ⟨F, rfl⟩ : ∃ F', F = F' + 1 := ⟨F - 1, by omega⟩
          have hf1 : f_X9_failed S5 (ad 12) = some 1 := LGs_failed l5
          rw [lp_s]
          simp only [plB]
          by_cases z : (4 : Int32) < nI (i + 1)
          · rw [if_pos z]
          · rw [if_neg z, hf1, cl_n, if_neg (by decide)]
        have el : e ≤ tkR B n er := by omega
        refine ⟨S5, stop, kA, Or.inr ⟨cc, p, _, el, l5, fun X G hG r0 hv => ?_⟩⟩
        obtain ⟨G, rfl⟩ : ∃ G', G = G' + 1 := ⟨G - 1, by omega⟩
        have r := rs X r0
        have tX := r.1.1
        have k13 : (gI X (ad 1) 13 = 2) = (tkK B n es = 2) := R_13 r (c := 2) (by omega)
        rw [hq] at hQ
        rw [lp_s]
        by_cases hk2 : tkK B n es = 2
        · have hx := r.2.2.2.2.2.2.1 hk2
          have hN := (tkN_f s0.2.1 hk2).1
          have e1 : (decide ((nI L).toInt64 ≤ gJ X (ad 1) 16) && decide (gJ X (ad 1) 16 ≤ 99999)) = decide (L ≤ tkN B n es ∧ nI (tkN B n es) ≤ 99999) := by
            rw [hx, Bool.eq_iff_iff, Bool.and_eq_true, decide_eq_true_eq, decide_eq_true_eq, decide_eq_true_eq, nI_l (by omega), pk_lLE (by omega) (by omega), ← nI_l (show tkN B n es < 2 ^ 31 by omega), show (99999 : Int64) = (99999 : Int32).toInt64 from rfl, tl_le]
          by_cases hr : L ≤ tkN B n es ∧ nI (tkN B n es) ≤ 99999
          · have en : eNum B n es L 99999 = none := by rw [eNum, if_pos hk2, if_pos hr]
            rw [en, qor_0] at hQ
            by_cases hi4 : i = 4
            · rw [if_pos hi4, qor_s] at hQ
              obtain ⟨X', g1, g2⟩ := R_fail r (k := 4) (i := 4) rfl
              injection hQ with hQ
              injection hQ with hc hpp
              subst hc; subst hpp
              refine ⟨X', ?_, RFl.dd g2 hv⟩
              have i4 : nI i = (4 : Int32) := by rw [hi4]; rfl
              simp only [mpB, lt_n, k13, hk2, if_true, M_inRange, cl_n, e1, decide_eq_true hr, bI_t, i10, if_false, i4, mpF, g1, zc_0]
            · rw [if_neg hi4, qor_0] at hQ
              have i4 : ¬ nI i = (4 : Int32) := by rw [show (4 : Int32) = nI 4 from rfl, nI_eq (by omega) (by omega)]; exact hi4
              have rd1 := RD_st (k := 14 + 11 * np + (3 + i)) (w := gJ X (ad 1) 16 * 100) (RD.rf r hv) (by omega)
              obtain ⟨X2, m2, r2, x2, -⟩ := R_ad rd1.1 (by omega)
              rw [← her] at r2
              have rd2 := rd1.tr (RD_mk r2 x2 rd1.2.2)
              have sc : ∀ (K : St → Option (Int32 × St)), stJ X (ad 3) (nI (15176 + 11 * np) + 3 + nI i) (gJ X (ad 1) 16 * 100) K = K (uJ X (ad 3) (15162 + (14 + 11 * np + (3 + i))) (gJ X (ad 1) 16 * 100)) := fun K => st3d tX ix3 (by omega)
              rcases R_into r2 rd2.2.2 ix7 (by omega) (a := 0) (by omega) 3000 (ia := 0) rfl (mul := 1) with ⟨z3, -⟩ | ⟨c3', z3, -, X3, m3, f3⟩
              · rw [z3] at hQ; simp at hQ
              · rw [z3] at hQ
                injection hQ with hQ
                injection hQ with hc hpp
                subst hc; subst hpp
                refine ⟨X3, ?_, rd2.fd f3⟩
                simp only [mpB, lt_n, k13, hk2, if_true, M_inRange, cl_n, e1, decide_eq_true hr, bI_t, i10, if_false, i4, r_1_0 tX, sc, m2, m3]
          · have en : eNum B n es L 99999 = some (2, tkS B n es) := by rw [eNum, if_pos hk2, if_neg hr]
            rw [en, qor_s, qor_s] at hQ
            obtain ⟨X', g1, g2⟩ := R_fail r (k := 2) (i := 2) rfl
            injection hQ with hQ
            injection hQ with hc hpp
            subst hc; subst hpp
            refine ⟨X', ?_, RFl.dd g2 hv⟩
            simp only [mpB, lt_n, k13, hk2, if_true, M_inRange, cl_n, e1, decide_eq_false hr, bI_f, mpF, g1, zc_0]
        · have en : eNum B n es L 99999 = some (1, tkS B n es) := by rw [eNum, if_neg hk2]
          rw [en, qor_s, qor_s] at hQ
          injection hQ with hQ
          injection hQ with hc hpp
          subst hc; subst hpp
          have rd1 := RD_st (k := 1) (w := u 1 + 1) (RD.rf r hv) (by decide)
          have l1' : ∀ (K : Int64 → Option (Int32 × St)), ldJ X (ad 3) 15163 K = K (u 1) := fun K => ld3d tX hv (k := 1) rfl (by decide)
          have s1' : ∀ (K : St → Option (Int32 × St)), stJ X (ad 3) 15163 (u 1 + 1) K = K (uJ X (ad 3) (15162 + 1) (u 1 + 1)) := fun K => st3d tX (k := 1) rfl (by decide)
          rcases R_end rd1.1 with ⟨z, -⟩ | ⟨z, X2, m2, f2⟩
          · unfold eEnd at z
            rw [if_neg (by omega)] at z; simp at z
          · refine ⟨X2, ?_, rd1.fd f2⟩
            simp only [mpB, lt_n, k13, hk2, if_false, mpU, r_1_0 tX, l1', s1', m2, cl_n, zc_0]
      | none =>
        rw [hq] at hQ l5
        obtain ⟨q1, q2⟩ := qor_none hQ.symm
        obtain ⟨q3, q4⟩ := qor_none q1
        have hi4 : i ≠ 4 := fun z => by rw [if_pos z] at q4; simp at q4
        have hk2 : tkK B n es = 2 := Classical.byContradiction fun z => by rw [eNum, if_neg z] at q3; simp at q3
        have hr : L ≤ tkN B n es ∧ nI (tkN B n es) ≤ 99999 := Classical.byContradiction fun z => by rw [eNum, if_pos hk2, if_neg z] at q3; simp at q3
        have hwN : w1 = tkN B n es := by rw [hw1, vNum, if_pos q3]
        have hN : tkN B n es ≤ 99999 := by
          have h2 := hr.2
          have := (tkN_f s0.2.1 hk2).1
          rw [show (99999 : Int32) = nI 99999 from rfl, nI_leI (by omega) (by decide)] at h2
          exact h2
        rw [if_pos (by omega)] at hS5
        have pv5 := PV_s hd hp t4 pv4 (by omega) (show w1 < 2 ^ 31 by omega) (show w2 < 2 ^ 31 by omega)
        rw [← hS5] at pv5
        obtain ⟨S', y1', y2', y3'⟩ := ih (i + 1) (tkR B n er) (w1 + 1) F S5 _ (by omega) (by omega) (by omega) l5 (by omega) (by omega) pv5
        have adv : ∀ X G, RS X ad B n e → gJ X (ad 3) = dV v u → ∃ X2, lp (κ := Int32 → Int32 → St → Option (Int32 × St)) (fun _ _ _ => none) (mpB (ad 1) (nI (15176 + 11 * np))) (G + 1) (nI L) (nI i) X = lp (κ := Int32 → Int32 → St → Option (Int32 × St)) (fun _ _ _ => none) (mpB (ad 1) (nI (15176 + 11 * np))) G (nI (w1 + 1)) (nI (i + 1)) X2 ∧ RD X X2 ad B n (tkR B n er) v (udt (udt (udt u (14 + 11 * np + (3 + i)) (lN w1 * 100)) (14 + 11 * np + (7 + i)) ((nI w2).toInt64 * 1)) (14 + 11 * np + 2) (lN (i + 1))) := fun X G r0 hv => by
          have r := rs X r0
          have tX := r.1.1
          have k13 : (gI X (ad 1) 13 = 2) = (tkK B n es = 2) := R_13 r (c := 2) (by omega)
          have hx := r.2.2.2.2.2.2.1 hk2
          have e1 : (decide ((nI L).toInt64 ≤ lN w1) && decide (lN w1 ≤ 99999)) = true := by
            rw [Bool.and_eq_true, decide_eq_true_eq, decide_eq_true_eq, nI_l (by omega), lN_le (by omega) (by omega), show (99999 : Int64) = lN 99999 from rfl, lN_le (by omega) (by decide)]
            omega
          rw [← hwN] at hx
          have i4 : ¬ nI i = (4 : Int32) := by rw [show (4 : Int32) = nI 4 from rfl, nI_eq (by omega) (by omega)]; exact hi4
          have rd1 := RD_st (k := 14 + 11 * np + (3 + i)) (w := lN w1 * 100) (RD.rf r hv) (by omega)
          obtain ⟨X2, m2, r2, x2, -⟩ := R_ad rd1.1 (by omega)
          rw [← her] at r2
          have rd2 := rd1.tr (RD_mk r2 x2 rd1.2.2)
          have sc : ∀ (K : St → Option (Int32 × St)), stJ X (ad 3) (nI (15176 + 11 * np) + 3 + nI i) (lN w1 * 100) K = K (uJ X (ad 3) (15162 + (14 + 11 * np + (3 + i))) (lN w1 * 100)) := fun K => st3d tX ix3 (by omega)
          rcases R_into r2 rd2.2.2 ix7 (by omega) (a := 0) (by omega) 3000 (ia := 0) rfl (mul := 1) with ⟨z3, X3, m3, r3⟩ | ⟨c3', z3, -⟩
          · have rd3 := rd2.tr r3
            rw [← hw2] at rd3
            have t3 := rd3.1.1.1
            have rd4 := RD_st (k := 14 + 11 * np + 2) (w := lN (i + 1)) rd3 (by omega)
            have l2 : ∀ (K : Int64 → Option (Int32 × St)), ldJ X3 (ad 3) (nI (15176 + 11 * np) + 2) K = K (lN i) := fun K => by
              rw [ld3d t3 rd3.2.2 ix2 (by omega), udt_n (by omega), udt_n (by omega)]
              rw [show u (14 + 11 * np + 2) = lN i from pv.2.2.2.1.2.1]
            have s2 : ∀ (K : St → Option (Int32 × St)), stJ X3 (ad 3) (nI (15176 + 11 * np) + 2) (lN (i + 1)) K = K (uJ X3 (ad 3) (15162 + (14 + 11 * np + 2)) (lN (i + 1))) := fun K => st3d t3 ix2 (by omega)
            refine ⟨_, ?_, rd4⟩
            rw [lp_s]
            simp only [mpB, lt_n, k13, hk2, if_true, hx, M_inRange, cl_n, e1, bI_t, i10, if_false, i4, lN_i, da1, r_1_0 tX, sc, m2, m3, r_1_0 t3, l2, lN_1, s2]
          · rw [q2] at z3; simp at z3
        refine ⟨S', y1', kA.tr y2', ?_⟩
        rcases y3' with ⟨e', u', t, z1, z2, z3, z4⟩ | ⟨c', p', e', z1, z2, z3⟩
        · refine Or.inl ⟨e', u', t, by omega, z2, z3, fun X G hG r hv => ?_⟩
          obtain ⟨G, rfl⟩ : ∃ G', G = G' + 1 := ⟨G - 1, by omega⟩
          obtain ⟨X2, g1, g2⟩ := adv X G r hv
          obtain ⟨X', g3, g4⟩ := z4 X2 G (by omega) g2.1 g2.2.2
          exact ⟨X', g1.trans g3, g2.tr g4⟩
        · refine Or.inr ⟨c', p', e', by omega, z2, fun X G hG r hv => ?_⟩
          obtain ⟨G, rfl⟩ : ∃ G', G = G' + 1 := ⟨G - 1, by omega⟩
          obtain ⟨X2, g1, g2⟩ := adv X G r hv
          obtain ⟨X', g3, g4⟩ := z3 X2 G (by omega) g2.1 g2.2.2
          exact ⟨X', g1.trans g3, g2.fdd g4⟩
