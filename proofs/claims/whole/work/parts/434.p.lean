/-! the pure part: the input -/
variable {S S1 S' S'' S3 : St} {ad : Nat → Nat} {b d j k : Nat} {v v' : Nat → Int64} {np nf no mo no' mo' : Nat}
/-- a change of input, errors and formatted text alone -/
theorem RE_io (r : RE S ad b d j k v np nf no mo) (hs : SR0 S S') (hA : ∀ p, RC b j p → ¬ (p = 0 ∨ p = 8 ∨ p = 9 ∨ (13 ≤ p ∧ p ≤ 15)) → Ag S S' ad p) (h19 : gI S' (ad 1) 19 = gI S (ad 1) 19) (h20 : gI S' (ad 1) 20 = gI S (ad 1) 20) (ip : INP S' ad) (er : ERR S' ad) (fm : FMT S' ad) : RE S' ad b d j k v np nf no mo := by
  have jb := r.jb
  unfold JBB at jb
  obtain ⟨c, e1, e2, r6, r7, r8, sn, -, -, -, jr, h3, ws⟩ := r
  have hb : ∀ q, BR q → Ag S S' ad (b + q) := fun q hq => hA _ (by unfold RC; exact Or.inr (Or.inr (Or.inr (Or.inr (Or.inr (Or.inr (Or.inr (Or.inl ⟨q, hq, rfl⟩)))))))) (by omega)
  have h120 : ∀ q, BR q → Ag S S' ad (120 + q) := fun q hq => hA _ (by unfold RC; exact Or.inr (Or.inr (Or.inr (Or.inr (Or.inr (Or.inr (Or.inr (Or.inr (Or.inl ⟨q, hq, rfl⟩))))))))) (by omega)
  have h160 : ∀ q, BR q → Ag S S' ad (160 + q) := fun q hq => hA _ (by unfold RC; exact Or.inr (Or.inr (Or.inr (Or.inr (Or.inr (Or.inr (Or.inr (Or.inr (Or.inr ⟨q, hq, rfl⟩))))))))) (by omega)
  refine ⟨CV_c hs hb c, e1, e2, (hs.1 _ _).trans r6, (hs.1 _ _).trans r7, (hs.1 _ _).trans r8, ⟨SN1_c (hA 21 (by simp [RC]) (by omega)) (hA 4 (by simp [RC]) (by omega)) h120 sn.1, SN1_c (hA 21 (by simp [RC]) (by omega)) (hA 4 (by simp [RC]) (by omega)) h160 sn.2⟩, ip, er, fm, ?_, ?_, ws⟩
  · exact JRN_c (hA j (by unfold RC; omega) (by omega)) (fun q hq => hA _ (by unfold RC; omega) (by omega)) h19 h20 (hA 10 (by simp [RC]) (by omega)) jr
  · exact (funext fun i => (hA 3 (by simp [RC]) (by omega) i).2).trans h3
theorem RE.ip (r : RE S ad b d j k v np nf no mo) : INP S ad := r.2.2.2.2.2.2.2.1
theorem RE.er (r : RE S ad b d j k v np nf no mo) : ERR S ad := r.2.2.2.2.2.2.2.2.1
theorem RE.fm (r : RE S ad b d j k v np nf no mo) : FMT S ad := r.2.2.2.2.2.2.2.2.2.1
theorem RE.jr (r : RE S ad b d j k v np nf no mo) : JRN S ad j nf := r.2.2.2.2.2.2.2.2.2.2.1
theorem W_1 : StpW ad f_law_1 := by
  intro Ls xs S c i ⟨b, d, j, k, v, np, nf, no, mo, r⟩ hi hL hc
  have cv := r.1
  have t := cv.t
  have jb := r.jb
  unfold JBB at jb
  have s1 : ∀ (β : Type) (k : Int32 → Option β), sx Ls xs (nI i + 1) k = k (xs (i + 1)) := fun β k => by rw [da1, sx_at hL (by omega)]
  generalize xs (i + 1) = p at s1
  obtain ⟨n, hn, i1, i2, i3⟩ := r.ip
  have e6 : (decide ((0 : Int64) ≤ p.toInt64) && decide (p.toInt64 ≤ Int32.toInt64 (nI n))) = vin p (n + 1) := by
    rw [← rng_vin p (show n + 1 < 2 ^ 31 by omega)]
    congr 2
    rw [nI_l (by omega), show (1 : Int64) = lN 1 from rfl, lN_sub (by omega)]; rfl
  have ec : ∀ {α : Type} (x y : α), (if p < 0 then x else if p ≤ nI n then y else x) = if vin p (n + 1) then y else x := fun x y => by
    rw [← vin_cases2 p (show n + 1 < 2 ^ 31 by omega)]
    have : p ≤ nI n ↔ p < nI (n + 1) := by rw [Int32.le_iff_toInt_le, Int32.lt_iff_toInt_lt, nI_toInt (by omega), nI_toInt (by omega)]; omega
    simp only [this]
  have g9 : ∀ S2 : St, gI S2 (ad 1) 9 = nI n → gI (uI S2 (ad 1) 2 0) (ad 1) 9 = nI n := fun S2 h => by rw [gI_uI, if_neg (fun e => absurd e.2 (by decide))]; exact h
  cases hv : vin p (n + 1)
  · refine ⟨_, c, REL_t r 0, by omega, fun kont => ?_⟩
    simp only [f_law_1, s1, f_X11_truncateInput, lt_e, r_0_0 t, i1, ec, hv, f_X12_truncateInput, g9 _ i2, M_inRange, e6, cl_s, if_bI, Bool.false_eq_true, if_false, if_true]
  · obtain ⟨q, hq, rfl⟩ := vin_of (by omega) hv
    have i2' : gI (uI S (ad 12) 1 (nI q)) (ad 1) 9 = nI n := by rw [(Ag_uI t (show 1 ≠ 12 by decide) 9).1]; exact i2
    refine ⟨uI (uI (uI S (ad 12) 1 (nI q)) (ad 1) 2 0) (ad 1) 9 (nI q), c, ⟨b, d, j, k, v, np, nf, no, mo, RE_io r ⟨fun _ _ => rfl, fun _ => rfl⟩ (fun p hp hnp => ?_) ?_ ?_ ?_ ?_ ?_⟩, by omega, fun kont => ?_⟩
    · intro l
      have h1 : p ≠ 1 := by rintro rfl; exact RC_not r.jb (Or.inl rfl) hp
      have h12 : p ≠ 12 := by rintro rfl; exact RC_not r.jb (by omega) hp
      simp only [gI_i t.1, gJ_uI, h1, h12, false_and, if_false, and_self]
    · simp only [gI_i t.1]; simp
    · simp only [gI_i t.1]; simp
    · refine ⟨q, by omega, by simp only [gI_i t.1]; simp, by simp only [gI_i t.1]; simp, fun l hl => ?_⟩
      simp only [gI_i t.1]
      simpa using i3 l (by omega)
    · have := r.er
      simp only [ERR, gI_i t.1] at this ⊢
      simpa using this
    · have := r.fm
      simp only [FMT, gI_i t.1] at this ⊢
      simpa using this
    · simp only [f_law_1, s1, f_X11_truncateInput, lt_e, r_0_0 t, i1, ec, hv, f_X12_truncateInput, g9 _ i2', M_inRange, e6, cl_s, if_bI, if_true]
/-! pushing bytes -/
def bt (w : Int32) (x : Int32) : Int32 := vp_nar .byte (Int8.toInt32 (Int32.toInt8 (w >>> (x &&& 31))))
def pus (S : St) (a c l n : Nat) (g : Nat → Int32) : Nat → St
  | 0 => S
  | k + 1 => uI (uI (pus S a c l n g k) a (n + k) (g k)) c l (nI (n + k + 1))
theorem SR0_pus (S : St) (a c l n : Nat) (g : Nat → Int32) : ∀ k, SR0 S (pus S a c l n g k) := by
  intro k
  induction k with
  | zero => exact SR0.rf S
  | succ k ih => exact ih.trans ((SR0_uI _ _ _ _).trans (SR0_uI _ _ _ _))
theorem gJ_pus (S : St) (a c l n : Nat) (g : Nat → Int32) (x y : Nat) : ∀ k, gJ (pus S a c l n g k) x y = gJ S x y := by
  intro k
  induction k with
  | zero => rfl
  | succ k ih => exact ih
theorem gI_pus (S : St) {a c : Nat} (h : a ≠ c) (l n : Nat) (g : Nat → Int32) (x y : Nat) : ∀ k, gI (pus S a c l n g k) x y = if x = a ∧ n ≤ y ∧ y < n + k then g (y - n) else if x = c ∧ y = l ∧ 0 < k then nI (n + k) else gI S x y := by
  intro k
  induction k with
  | zero =>
    have h1 : ¬ (x = a ∧ n ≤ y ∧ y < n + 0) := by omega
    have h2 : ¬ (x = c ∧ y = l ∧ 0 < 0) := by omega
    rw [if_neg h1, if_neg h2]; rfl
  | succ k ih =>
    show gI (uI (uI (pus S a c l n g k) a (n + k) (g k)) c l (nI (n + k + 1))) x y = _
    rw [gI_uI, gI_uI, ih]
    by_cases h1 : x = c ∧ y = l
    · rw [if_pos h1, if_neg (by omega), if_pos (by omega)]; rfl
    · rw [if_neg h1]
      by_cases h2 : x = a ∧ y = n + k
      · rw [if_pos h2, if_pos (by omega), h2.2, Nat.add_sub_cancel_left]
      · rw [if_neg h2]
        by_cases h3 : x = a ∧ n ≤ y ∧ y < n + k
        · rw [if_pos h3, if_pos (by omega)]
        · rw [if_neg h3, if_neg (by omega), if_neg (by omega), if_neg (by omega)]
theorem FU_5 {κ : Type} (bot : κ) (bd : κ → κ) : lp bot bd FU = bd (bd (bd (bd (bd (lp bot bd 5995))))) := rfl
def wdB (w : Nat → Int32) (i : Nat) : Int32 := bt (w (i / 4)) (nI (24 - 8 * (i % 4)))
def shI (i : Nat) : Int32 := 24 + (-8) * nI i
theorem sh_p : ∀ i, i < 4 → ¬ shI i < 0 := by decide
theorem sh_e : ∀ i, i < 4 → nI (24 - 8 * i) = shI i := by decide
theorem sh_s (i : Nat) : shI i + (-8) = shI (i + 1) := by
  unfold shI
  rw [← nI_1, Int32.mul_add, Int32.mul_one, Int32.add_assoc]
theorem C_four (t : TR S ad) {n q : Nat} (w : Nat → Int32) (hq : q < 5) (hn : n + 20 ≤ 1500) (h0 : gI S (ad 12) 1 = nI n) : f_X9_addFourBytes (pus S (ad 13) (ad 12) 1 n (wdB w) (4 * q)) (ad 12) (w q) = some (pus S (ad 13) (ad 12) 1 n (wdB w) (4 * q + 4)) := by
  have hne : ad 13 ≠ ad 12 := fun e => absurd ((t.1 _ _).mp e) (by decide)
  have T : ∀ k, TR (pus S (ad 13) (ad 12) 1 n (wdB w) k) ad := fun k => TR_SR0 (SR0_pus _ _ _ _ _ _ k) t
  have step : ∀ k, k < 20 → gI (pus S (ad 13) (ad 12) 1 n (wdB w) k) (ad 12) 1 = nI (n + k) := fun k hk => by
    rw [gI_pus S hne, if_neg (fun e => hne e.1.symm)]
    by_cases h : 0 < k
    · rw [if_pos ⟨rfl, rfl, h⟩]
    · rw [if_neg (fun e => h e.2.2), show k = 0 by omega]; exact h0
  have one : ∀ (K : Int32 → St → Option St) (k : Nat) (x : Int32), k < 20 → ¬ x < 0 → wdB w k = bt (w q) x → (if x < 0 then (some (pus S (ad 13) (ad 12) 1 n (wdB w) k)) else (lt (gI (pus S (ad 13) (ad 12) 1 n (wdB w) k) (ad 12) 1) fun (v5 : Int32) => if 1500 ≤ v5 then (some (pus S (ad 13) (ad 12) 1 n (wdB w) k)) else (lt (gR (pus S (ad 13) (ad 12) 1 n (wdB w) k) (ad 12) 0) fun (a6 : Nat) => lt (gI (pus S (ad 13) (ad 12) 1 n (wdB w) k) (ad 12) 1) fun (v8 : Int32) => stI (pus S (ad 13) (ad 12) 1 n (wdB w) k) a6 v8 (vp_nar .byte (Int8.toInt32 (Int32.toInt8 ((w q) >>> (x &&& 31))))) fun (S9 : St) => lt (gI S9 (ad 12) 1) fun (v10 : Int32) => lt (uI S9 (ad 12) 1 (v10 + 1)) fun (S11 : St) => K (x + (-8)) S11))) = K (x + (-8)) (pus S (ad 13) (ad 12) 1 n (wdB w) (k + 1)) := by
    intro K k x hk hx hw
    have hz : ¬ (1500 : Int32) ≤ nI (n + k) := ge1500 (by omega)
    simp only [if_neg hx, lt_e, step k hk, if_neg hz, r_12_0 (T k)]
    rw [stI_at (by rw [n_13 (T k)]; omega) (by rw [n_13 (T k)]; decide), gI_uI, if_neg (fun e => hne e.1.symm), step k hk, nI_1]
    show K _ (uI (uI _ _ _ (bt (w q) x)) _ _ _) = _
    rw [← hw]; rfl
  simp only [f_X9_addFourBytes]
  refine (lp_for (fun (K : Int32 → St → Option St) i (u : St) => K (shI i) u) _ _ 4 (fun i _ => pus S (ad 13) (ad 12) 1 n (wdB w) (4 * q + i + 1)) some (fun i u => u = pus S (ad 13) (ad 12) 1 n (wdB w) (4 * q + i)) ?_ (fun _ _ _ _ => rfl) ?_ 4 FU 0 (pus S (ad 13) (ad 12) 1 n (wdB w) (4 * q)) rfl rfl (show 4 < 6000 by omega)).trans ?_
  · rintro K i u hi rfl
    refine (one K (4 * q + i) (shI i) (by omega) (sh_p i hi) ?_).trans ?_
    · rw [wdB, show (4 * q + i) / 4 = q by omega, show (4 * q + i) % 4 = i by omega, sh_e i hi]
    · rw [sh_s i]
  · rintro K u rfl
    rw [if_pos (by decide)]
  · rfl
theorem M_four (t : TR S ad) {n q : Nat} (w : Nat → Int32) (hq : q < 5) (hn : n + 20 ≤ 1500) (h0 : gI S (ad 1) 9 = nI n) : f_X12_appendBytes (pus S (ad 9) (ad 1) 9 n (wdB w) (4 * q)) (ad 1) (w q) = some (pus S (ad 9) (ad 1) 9 n (wdB w) (4 * q + 4)) := by
  have hne : ad 9 ≠ ad 1 := fun e => absurd ((t.1 _ _).mp e) (by decide)
  have T : ∀ k, TR (pus S (ad 9) (ad 1) 9 n (wdB w) k) ad := fun k => TR_SR0 (SR0_pus _ _ _ _ _ _ k) t
  have step : ∀ k, k < 20 → gI (pus S (ad 9) (ad 1) 9 n (wdB w) k) (ad 1) 9 = nI (n + k) := fun k hk => by
    rw [gI_pus S hne, if_neg (fun e => hne e.1.symm)]
    by_cases h : 0 < k
    · rw [if_pos ⟨rfl, rfl, h⟩]
    · rw [if_neg (fun e => h e.2.2), show k = 0 by omega]; exact h0
  have one : ∀ (K : Int32 → St → Option St) (k : Nat) (x : Int32), k < 20 → ¬ x < 0 → wdB w k = bt (w q) x → (if x < 0 then (some (pus S (ad 9) (ad 1) 9 n (wdB w) k)) else (lt (gR (pus S (ad 9) (ad 1) 9 n (wdB w) k) (ad 1) 8) fun (a5 : Nat) => lt (gI (pus S (ad 9) (ad 1) 9 n (wdB w) k) (ad 1) 9) fun (v7 : Int32) => stI (pus S (ad 9) (ad 1) 9 n (wdB w) k) a5 v7 (vp_nar .byte (Int8.toInt32 (Int32.toInt8 ((w q) >>> (x &&& 31))))) fun (S8 : St) => lt (gI S8 (ad 1) 9) fun (v9 : Int32) => lt (uI S8 (ad 1) 9 (v9 + 1)) fun (S10 : St) => K (x + (-8)) S10)) = K (x + (-8)) (pus S (ad 9) (ad 1) 9 n (wdB w) (k + 1)) := by
    intro K k x hk hx hw
    simp only [if_neg hx, lt_e, step k hk, r_1_8 (T k)]
    rw [stI_at (by rw [n_9 (T k)]; omega) (by rw [n_9 (T k)]; decide), gI_uI, if_neg (fun e => hne e.1.symm), step k hk, nI_1]
    show K _ (uI (uI _ _ _ (bt (w q) x)) _ _ _) = _
    rw [← hw]; rfl
  simp only [f_X12_appendBytes]
  refine (lp_for (fun (K : Int32 → St → Option St) i (u : St) => K (shI i) u) _ _ 4 (fun i _ => pus S (ad 9) (ad 1) 9 n (wdB w) (4 * q + i + 1)) some (fun i u => u = pus S (ad 9) (ad 1) 9 n (wdB w) (4 * q + i)) ?_ (fun _ _ _ _ => rfl) ?_ 4 FU 0 (pus S (ad 9) (ad 1) 9 n (wdB w) (4 * q)) rfl rfl (show 4 < 6000 by omega)).trans ?_
  · rintro K i u hi rfl
    refine (one K (4 * q + i) (shI i) (by omega) (sh_p i hi) ?_).trans ?_
    · rw [wdB, show (4 * q + i) / 4 = q by omega, show (4 * q + i) % 4 = i by omega, sh_e i hi]
    · rw [sh_s i]
  · rintro K u rfl
    rw [if_pos (by decide)]
  · rfl
theorem bt_r (w x : Int32) : -128 ≤ (bt w x).toInt ∧ (bt w x).toInt < 128 := by
  unfold bt
  rw [vp_nar_byte, Int8.toInt_toInt32]
  exact ⟨Int8.le_toInt _, Int8.toInt_lt _⟩
theorem C_append (t : TR S ad) {n : Nat} (w : Nat → Int32) (hn : n + 20 ≤ 1500) (h0 : gI S (ad 12) 1 = nI n) : f_X11_appendInput S (ad 0) (w 0) (w 1) (w 2) (w 3) (w 4) = some (nI (n + 20), pus S (ad 13) (ad 12) 1 n (wdB w) 20) := by
  have hne : ad 13 ≠ ad 12 := fun e => absurd ((t.1 _ _).mp e) (by decide)
  have T : ∀ k, TR (pus S (ad 13) (ad 12) 1 n (wdB w) k) ad := fun k => TR_SR0 (SR0_pus _ _ _ _ _ _ k) t
  have e0 : nI n ≤ 1480 := by rw [show (1480 : Int32) = nI 1480 from rfl, nI_leI (by omega) (by decide)]; omega
  have F := fun q hq => C_four t (q := q) w hq hn h0
  simp only [f_X11_appendInput, lt_e, r_0_0 t, h0, e0, if_true]
  rw [show f_X9_addFourBytes S (ad 12) (w 0) = some (pus S (ad 13) (ad 12) 1 n (wdB w) (4 * 0 + 4)) from F 0 (by decide)]
  simp only [cl_s, lt_e, r_0_0 (T _)]
  rw [show f_X9_addFourBytes (pus S (ad 13) (ad 12) 1 n (wdB w) (4 * 0 + 4)) (ad 12) (w 1) = some (pus S (ad 13) (ad 12) 1 n (wdB w) (4 * 1 + 4)) from F 1 (by decide)]
  simp only [cl_s, lt_e, r_0_0 (T _)]
  rw [show f_X9_addFourBytes (pus S (ad 13) (ad 12) 1 n (wdB w) (4 * 1 + 4)) (ad 12) (w 2) = some (pus S (ad 13) (ad 12) 1 n (wdB w) (4 * 2 + 4)) from F 2 (by decide)]
  simp only [cl_s, lt_e, r_0_0 (T _)]
  rw [show f_X9_addFourBytes (pus S (ad 13) (ad 12) 1 n (wdB w) (4 * 2 + 4)) (ad 12) (w 3) = some (pus S (ad 13) (ad 12) 1 n (wdB w) (4 * 3 + 4)) from F 3 (by decide)]
  simp only [cl_s, lt_e, r_0_0 (T _)]
  rw [show f_X9_addFourBytes (pus S (ad 13) (ad 12) 1 n (wdB w) (4 * 3 + 4)) (ad 12) (w 4) = some (pus S (ad 13) (ad 12) 1 n (wdB w) (4 * 4 + 4)) from F 4 (by decide)]
  simp only [cl_s, lt_e, r_0_0 (T _)]
  rw [gI_pus S hne, if_neg (fun e => hne e.1.symm), if_pos ⟨rfl, rfl, by decide⟩]
theorem M_append (t : TR S ad) {n : Nat} (w : Nat → Int32) (hn : n + 20 ≤ 1500) (h0 : gI S (ad 1) 9 = nI n) : f_X12_appendInput S (ad 1) (w 0) (w 1) (w 2) (w 3) (w 4) = some (nI (n + 20), pus (uI S (ad 1) 2 0) (ad 9) (ad 1) 9 n (wdB w) 20) := by
  have hne : ad 9 ≠ ad 1 := fun e => absurd ((t.1 _ _).mp e) (by decide)
  have t1 : TR (uI S (ad 1) 2 0) ad := TR_SR0 (SR0_uI _ _ _ _) t
  have h1 : gI (uI S (ad 1) 2 0) (ad 1) 9 = nI n := by rw [gI_uI, if_neg (fun e => absurd e.2 (by decide))]; exact h0
  have e0 : nI n + 20 ≤ 1500 := by rw [show (20 : Int32) = nI 20 from rfl, nI_add, show (1500 : Int32) = nI 1500 from rfl, nI_leI (by omega) (by decide)]; omega
  have F := fun q hq => M_four t1 (q := q) w hq hn h1
  simp only [f_X12_appendInput, lt_e, h1, e0, if_true]
  generalize uI S (ad 1) 2 0 = U at *
  rw [show f_X12_appendBytes U (ad 1) (w 0) = some (pus U (ad 9) (ad 1) 9 n (wdB w) (4 * 0 + 4)) from F 0 (by decide)]
  simp only [cl_s]
  rw [show f_X12_appendBytes (pus U (ad 9) (ad 1) 9 n (wdB w) (4 * 0 + 4)) (ad 1) (w 1) = some (pus U (ad 9) (ad 1) 9 n (wdB w) (4 * 1 + 4)) from F 1 (by decide)]
  simp only [cl_s]
  rw [show f_X12_appendBytes (pus U (ad 9) (ad 1) 9 n (wdB w) (4 * 1 + 4)) (ad 1) (w 2) = some (pus U (ad 9) (ad 1) 9 n (wdB w) (4 * 2 + 4)) from F 2 (by decide)]
  simp only [cl_s]
  rw [show f_X12_appendBytes (pus U (ad 9) (ad 1) 9 n (wdB w) (4 * 2 + 4)) (ad 1) (w 3) = some (pus U (ad 9) (ad 1) 9 n (wdB w) (4 * 3 + 4)) from F 3 (by decide)]
  simp only [cl_s]
  rw [show f_X12_appendBytes (pus U (ad 9) (ad 1) 9 n (wdB w) (4 * 3 + 4)) (ad 1) (w 4) = some (pus U (ad 9) (ad 1) 9 n (wdB w) (4 * 4 + 4)) from F 4 (by decide)]
  simp only [cl_s]
  rw [gI_pus U hne, if_neg (fun e => hne e.1.symm), if_pos ⟨rfl, rfl, by decide⟩]
theorem W_0 : StpW ad f_law_0 := by
  intro Ls xs S c i ⟨b, d, j, k, v, np, nf, no, mo, r⟩ hi hL hc
  have cv := r.1
  have t := cv.t
  have jb := r.jb
  unfold JBB at jb
  have s1 : ∀ (β : Type) (k : Int32 → Option β), sx Ls xs (nI i + 1) k = k (xs (i + 1)) := fun β k => by rw [da1, sx_at hL (by omega)]
  have s2 : ∀ (β : Type) (k : Int32 → Option β), sx Ls xs (nI i + 2) k = k (xs (i + 2)) := fun β k => by rw [da2, sx_at hL (by omega)]
  have s3 : ∀ (β : Type) (k : Int32 → Option β), sx Ls xs (nI i + 3) k = k (xs (i + 3)) := fun β k => by rw [da3, sx_at hL (by omega)]
  have s4 : ∀ (β : Type) (k : Int32 → Option β), sx Ls xs (nI i + 4) k = k (xs (i + 4)) := fun β k => by rw [da4, sx_at hL (by omega)]
  have s5 : ∀ (β : Type) (k : Int32 → Option β), sx Ls xs (nI i + 5) k = k (xs (i + 5)) := fun β k => by rw [da5, sx_at hL (by omega)]
  obtain ⟨n, hn, i1, i2, i3⟩ := r.ip
  by_cases hf : n + 20 ≤ 1500
  · have hne : ad 13 ≠ ad 12 := fun e => absurd ((t.1 _ _).mp e) (by decide)
    have hne2 : ad 9 ≠ ad 1 := fun e => absurd ((t.1 _ _).mp e) (by decide)
    have hx : f_X11_appendInput S (ad 0) (xs (i + 1)) (xs (i + 2)) (xs (i + 3)) (xs (i + 4)) (xs (i + 5)) = some (nI (n + 20), pus S (ad 13) (ad 12) 1 n (wdB (fun q => xs (i + (q + 1)))) 20) := C_append t (fun q => xs (i + (q + 1))) hf i1
    generalize hg : wdB (fun q => xs (i + (q + 1))) = g at hx
    have hS1 := SR0_pus S (ad 13) (ad 12) 1 n g 20
    have t1 : TR (pus S (ad 13) (ad 12) 1 n g 20) ad := TR_SR0 hS1 t
    have i2' : gI (pus S (ad 13) (ad 12) 1 n g 20) (ad 1) 9 = nI n := by
      rw [gI_pus S hne, if_neg (fun e => absurd ((t.1 _ _).mp e.1) (by decide)), if_neg (fun e => absurd ((t.1 _ _).mp e.1) (by decide))]; exact i2
    have hy : f_X12_appendInput (pus S (ad 13) (ad 12) 1 n g 20) (ad 1) (xs (i + 1)) (xs (i + 2)) (xs (i + 3)) (xs (i + 4)) (xs (i + 5)) = some (nI (n + 20), pus (uI (pus S (ad 13) (ad 12) 1 n g 20) (ad 1) 2 0) (ad 9) (ad 1) 9 n g 20) := by
      rw [← hg]; exact M_append (by rw [hg]; exact t1) (fun q => xs (i + (q + 1))) hf (by rw [hg]; exact i2')
    have hS2 : SR0 S (pus (uI (pus S (ad 13) (ad 12) 1 n g 20) (ad 1) 2 0) (ad 9) (ad 1) 9 n g 20) := (hS1.trans (SR0_uI _ _ _ _)).trans (SR0_pus _ _ _ _ _ _ _)
    have rd : ∀ p l, gI (pus (uI (pus S (ad 13) (ad 12) 1 n g 20) (ad 1) 2 0) (ad 9) (ad 1) 9 n g 20) (ad p) l = if p = 9 ∧ n ≤ l ∧ l < n + 20 then g (l - n) else if p = 1 ∧ l = 9 then nI (n + 20) else if p = 1 ∧ l = 2 then 0 else if p = 13 ∧ n ≤ l ∧ l < n + 20 then g (l - n) else if p = 12 ∧ l = 1 then nI (n + 20) else gI S (ad p) l := fun p l => by
      rw [gI_pus _ hne2, gI_uI, gI_pus _ hne]
      simp only [t.1, show (0 < 20) = True by decide, and_true]
    refine ⟨_, c, ⟨b, d, j, k, v, np, nf, no, mo, RE_io r hS2 (fun p hp hnp l => ?_) ?_ ?_ ?_ ?_ ?_⟩, by omega, fun kont => ?_⟩
    · have h1 : p ≠ 1 := by rintro rfl; exact RC_not r.jb (Or.inl rfl) hp
      have h12 : p ≠ 12 := by rintro rfl; exact RC_not r.jb (by omega) hp
      rw [rd, gJ_pus, gJ_uI, gJ_pus, if_neg (by omega), if_neg (by omega), if_neg (by omega), if_neg (by omega), if_neg (by omega)]
      exact ⟨rfl, rfl⟩
    · rw [rd]; simp
    · rw [rd]; simp
    · refine ⟨n + 20, hf, by rw [rd]; simp, by rw [rd]; simp, fun l hl => ?_⟩
      rw [rd, rd]
      by_cases h : n ≤ l
      · have h1 : ¬ (13 = 9 ∧ n ≤ l ∧ l < n + 20) := by omega
        rw [if_neg h1, if_neg (by omega), if_neg (by omega), if_pos ⟨rfl, h, hl⟩, if_pos ⟨rfl, h, hl⟩]
        refine ⟨rfl, ?_⟩
        rw [← hg]; exact bt_r _ _
      · rw [if_neg (by omega), if_neg (by omega), if_neg (by omega), if_neg (by omega), if_neg (by omega), if_neg (by omega), if_neg (by omega), if_neg (by omega), if_neg (by omega), if_neg (by omega)]
        exact i3 l (by omega)
    · have := r.er
      simp only [ERR, rd] at this ⊢
      simpa using this
    · have := r.fm
      simp only [FMT, rd] at this ⊢
      simpa using this
    · simp only [f_law_0, s1, s2, s3, s4, s5, hx, hy, cl_s, if_true]
  · have e0 : ¬ nI n ≤ 1480 := by rw [show (1480 : Int32) = nI 1480 from rfl, nI_leI (by omega) (by decide)]; omega
    have e1 : ¬ nI n + 20 ≤ 1500 := by rw [show (20 : Int32) = nI 20 from rfl, nI_add, show (1500 : Int32) = nI 1500 from rfl, nI_leI (by omega) (by decide)]; omega
    have h1 : gI (uI S (ad 1) 2 0) (ad 1) 9 = nI n := by rw [gI_uI, if_neg (fun e => absurd e.2 (by decide))]; exact i2
    refine ⟨_, c, REL_t r 0, by omega, fun kont => ?_⟩
    simp only [f_law_0, s1, s2, s3, s4, s5, f_X11_appendInput, lt_e, r_0_0 t, i1, e0, if_false, cl_s, f_X12_appendInput, h1, e1, if_true]
