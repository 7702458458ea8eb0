/-! the pure part: saving and restoring -/
variable {S S0 S1 S2 S' S'' S3 X : St} {ad : Nat → Nat} {b d j k : Nat} {v v0 v' v1 v2 u w : Nat → Int64} {np nf no mo no' mo' x y : Nat}
theorem L1_40 : ∀ e, e ∈ L1c → e.1 < 40 := by decide
theorem L2_40 (mo : Nat) : ∀ e, e ∈ L2c mo → e.1 < 40 := by
  intro e he
  simp only [L2c, List.mem_cons, List.not_mem_nil, or_false] at he
  rcases he with rfl | rfl | rfl | rfl | rfl | rfl | rfl | rfl | rfl | rfl | rfl | rfl | rfl | rfl | rfl | rfl | rfl | rfl <;> simp
theorem hasC_40 {L : List (Nat × Bool × Nat)} (hL : ∀ e, e ∈ L → e.1 < 40) {q : Nat} {J : Bool} {l : Nat} (h : hasC L q J l = true) : q < 40 := by
  simp only [hasC, List.any_eq_true, Bool.and_eq_true, decide_eq_true_eq] at h
  obtain ⟨e, he, ⟨h5, -⟩, -⟩ := h
  have := hL e he
  omega
theorem cpz_far (hi : ∀ p q, ad p = ad q ↔ p = q) (hxy : FarN x y) (S : St) {p : Nat} (hp : p < y ∨ y + 40 ≤ p) : Ag S (cpBz ad x y mo S) ad p := by
  intro l
  unfold cpBz
  rw [gI_i hi, gJ_uI, if_neg (by omega), gI_cpo hi hxy _ _ (L2_40 mo), gJ_cpo hi hxy _ _ (L2_40 mo), if_neg, if_neg, gI_i hi, gJ_uI, if_neg (by omega), gI_cpo hi hxy _ _ L1_40, gJ_cpo hi hxy _ _ L1_40, if_neg, if_neg]
  · exact ⟨rfl, rfl⟩
  · rintro ⟨h1, h2⟩; have := hasC_40 L1_40 h2; omega
  · rintro ⟨h1, h2⟩; have := hasC_40 L1_40 h2; omega
  · rintro ⟨h1, h2⟩; have := hasC_40 (L2_40 mo) h2; omega
  · rintro ⟨h1, h2⟩; have := hasC_40 (L2_40 mo) h2; omega
theorem cpz_I (hi : ∀ p q, ad p = ad q ↔ p = q) (hxy : FarN x y) (S : St) {q l : Nat} (hq : q ≠ 3 ∧ q ≠ 6) (h : hasC L1c q false l = true ∨ hasC (L2c mo) q false l = true) : gI (cpBz ad x y mo S) (ad (y + q)) l = gI S (ad (x + q)) l := by
  have q40 : q < 40 := h.elim (hasC_40 L1_40) (hasC_40 (L2_40 mo))
  have hxy' := hxy
  unfold FarN at hxy'
  unfold cpBz
  rw [gI_i hi, if_neg (by omega), gI_cpo hi hxy _ _ (L2_40 mo), Nat.add_sub_cancel_left]
  by_cases h2 : hasC (L2c mo) q false l = true
  · rw [if_pos ⟨by omega, h2⟩, gI_i hi, if_neg (by omega), gI_cpo hi hxy _ _ L1_40, if_neg]
    rintro ⟨h3, h4⟩
    have := hasC_40 L1_40 h4
    omega
  · have h1 : hasC L1c q false l = true := h.resolve_right h2
    rw [if_neg (fun e => h2 e.2), gI_i hi, if_neg (by omega), gI_cpo hi hxy _ _ L1_40, Nat.add_sub_cancel_left, if_pos ⟨by omega, h1⟩]
theorem cpz_J (hi : ∀ p q, ad p = ad q ↔ p = q) (hxy : FarN x y) (S : St) {q l : Nat} (h : hasC L1c q true l = true ∨ hasC (L2c mo) q true l = true) : gJ (cpBz ad x y mo S) (ad (y + q)) l = gJ S (ad (x + q)) l := by
  have q40 : q < 40 := h.elim (hasC_40 L1_40) (hasC_40 (L2_40 mo))
  have hxy' := hxy
  unfold FarN at hxy'
  unfold cpBz
  rw [gJ_uI, gJ_cpo hi hxy _ _ (L2_40 mo), Nat.add_sub_cancel_left]
  by_cases h2 : hasC (L2c mo) q true l = true
  · rw [if_pos ⟨by omega, h2⟩, gJ_uI, gJ_cpo hi hxy _ _ L1_40, if_neg]
    rintro ⟨h3, h4⟩
    have := hasC_40 L1_40 h4
    omega
  · have h1 : hasC L1c q true l = true := h.resolve_right h2
    rw [if_neg (fun e => h2 e.2), gJ_uI, gJ_cpo hi hxy _ _ L1_40, Nat.add_sub_cancel_left, if_pos ⟨by omega, h1⟩]
theorem cpz_3 (hi : ∀ p q, ad p = ad q ↔ p = q) (hxy : FarN x y) (S : St) : gI (cpBz ad x y mo S) (ad (y + 3)) 4 = gI S (ad (x + 3)) 4 := by
  unfold cpBz
  rw [gI_i hi, if_neg (by omega), gI_cpo hi hxy _ _ (L2_40 mo), Nat.add_sub_cancel_left, if_neg, gI_i hi, if_pos ⟨rfl, rfl⟩]
  rintro ⟨-, h⟩
  simp [hasC, L2c] at h
theorem cpz_6 (hi : ∀ p q, ad p = ad q ↔ p = q) (S : St) : gI (cpBz ad x y mo S) (ad (y + 6)) 6 = gI S (ad (x + 6)) 6 := by
  unfold cpBz
  rw [gI_i hi, if_pos ⟨rfl, rfl⟩]
theorem AXs_copy (hi : ∀ p q, ad p = ad q ↔ p = q) (hxy : FarN x y) (h8 : nf ≤ 8) (h16 : no ≤ 16) (hm : mo ≤ 60) (a : AXs S ad x w nf no mo) : AXs (cpBz ad x y mo S) ad y w nf no mo := by
  obtain ⟨aG, aO, aF, aR, aB⟩ := a
  have I := fun q l hq h => cpz_I (mo := mo) hi hxy S (q := q) (l := l) hq h
  have J := fun q l h => cpz_J (mo := mo) hi hxy S (q := q) (l := l) h
  refine ⟨fun c hc => ?_, ⟨?_, fun o ho => ?_⟩, fun f hf => ?_, fun f hf => ?_, ?_⟩
  · rw [I 12 c (by decide) (by simp [hasC, L1c, hc])]; exact aG c hc
  · rw [cpz_3 hi hxy]; exact aO.1
  · have o16 : o < 16 := by omega
    rw [I 15 o (by decide) (by simp [hasC, L1c, o16]), I 16 o (by decide) (by simp [hasC, L1c, o16]), I 17 o (by decide) (by simp [hasC, L1c, o16]), J 18 o (by simp [hasC, L1c, o16])]
    exact aO.2 o ho
  · have f8 : f < 8 := by omega
    rw [I 21 f (by decide) (by simp [hasC, L2c, f8]), I 22 f (by decide) (by simp [hasC, L2c, f8]), I 23 f (by decide) (by simp [hasC, L2c, f8]), I 24 f (by decide) (by simp [hasC, L2c, f8]), I 25 f (by decide) (by simp [hasC, L2c, f8]), J 26 f (by simp [hasC, L2c, f8])]
    exact aF f hf
  · have f8 : f < 8 := by omega
    rw [I 27 f (by decide) (by simp [hasC, L2c, f8]), I 28 f (by decide) (by simp [hasC, L2c, f8]), I 29 f (by decide) (by simp [hasC, L2c, f8]), J 30 f (by simp [hasC, L2c, f8]), I 31 f (by decide) (by simp [hasC, L2c, f8]), I 32 f (by decide) (by simp [hasC, L2c, f8])]
    exact aR f hf
  · obtain ⟨a1, a2, a3, a4, a5, a6, a7⟩ := aB
    refine ⟨by rw [cpz_6 hi]; exact a1, fun k hk => by rw [J 35 k (by simp [hasC, L2c, hk])]; exact a2 k hk, fun k hk => by rw [J 38 k (by simp [hasC, L2c, hk])]; exact a3 k hk, fun f hf => ?_, fun f h1 h2 => by rw [J 36 f (by simp [hasC, L2c, h2])]; exact a5 f h1 h2, fun k f hk hf => ?_, fun k f q hk hf hq => ?_⟩
    · have f8 : f < 8 := by omega
      rw [J 36 f (by simp [hasC, L2c, f8]), J 37 f (by simp [hasC, L2c, f8])]; exact a4 f hf
    · have hl : 8 * k + f < 8 * mo := by omega
      rw [J 33 _ (by simp [hasC, L2c, hl])]; exact a6 k f hk hf
    · have hl : 7 * (8 * k + f) + q < 56 * mo := by omega
      rw [J 34 _ (by simp [hasC, L2c, hl])]; exact a7 k f q hk hf hq
/-! the reference's blocks -/
def cbV (v : Nat → Int64) (p q : Nat) : Nat → Int64 := fun i => if 5054 * q ≤ i ∧ i < 5054 * q + 5054 then v (5054 * p + (i - 5054 * q)) else v i
theorem cbV_char (v : Nat → Int64) {p q : Nat} (hpq : p ≠ q) : ∀ n, n ≤ 5054 → itr (fun i w => udt w (5054 * q + i) (w (5054 * p + i))) 0 n v = fun i => if 5054 * q ≤ i ∧ i < 5054 * q + n then v (5054 * p + (i - 5054 * q)) else v i := by
  intro n
  induction n with
  | zero => intro _; funext i; show v i = _; rw [if_neg (by omega)]
  | succ n ih =>
    intro hn
    rw [itr_succ, ih (by omega), Nat.zero_add]
    funext i
    have e0 : (fun i => if 5054 * q ≤ i ∧ i < 5054 * q + n then v (5054 * p + (i - 5054 * q)) else v i) (5054 * p + n) = v (5054 * p + n) := if_neg (by omega)
    rw [e0]
    by_cases h : i = 5054 * q + n
    · rw [h, udt_e, if_pos (by omega), Nat.add_sub_cancel_left]
    · rw [udt_n h]
      show (if 5054 * q ≤ i ∧ i < 5054 * q + n then _ else _) = _
      by_cases h2 : 5054 * q ≤ i ∧ i < 5054 * q + n
      · rw [if_pos h2, if_pos (by omega)]
      · rw [if_neg h2, if_neg (by omega)]
theorem M_copyB (t : TR S ad) (e : gJ S (ad 3) = v) {p q : Nat} {i1 i2 : Int32} (h1 : i1 = nI p) (h2 : i2 = nI q) (hp : p < 4) (hq : q < 4) (hpq : p ≠ q) : f_X12_copyBlock S (ad 1) i1 i2 = some (qJ S (ad 3) (cbV v p q)) := by
  subst h1 h2
  have eS : S = qJ S (ad 3) v := by rw [← e, qJ_self]
  have T : ∀ w, TR (qJ S (ad 3) w) ad := fun w => TR_SR0 (SR0_qJ _ _ _) t
  unfold f_X12_copyBlock
  conv => lhs; rw [eS]
  refine (lp_for0 (fun (k : Int32 → St → Option St) i (w : Nat → Int64) => k (nI i) (qJ S (ad 3) w)) _ _ 5054 (by decide) (fun i w => udt w (5054 * q + i) (w (5054 * p + i))) (fun w => some (qJ S (ad 3) w)) (fun _ _ => True) v trivial ?_ (fun _ _ _ _ => trivial) ?_).trans ?_
  · intro k i w hi _
    rw [if_neg (ge5054 hi), lt_n, r_1_0 (T w), lt_n, mu5054, nI_add, ld3 t (by omega), mu5054, nI_add, st3 t (by omega), nI_1]
  · intro k w _
    rw [if_pos le5054]
  · rw [cbV_char v hpq 5054 (Nat.le_refl _)]; rfl
theorem cpz_not (hi : ∀ p q, ad p = ad q ↔ p = q) (hxy : FarN x y) (S : St) {q : Nat} (hq : ¬ MQ2 q) : Ag S (cpBz ad x y mo S) ad (y + q) := by
  intro l
  unfold MQ2 at hq
  have n1 : ∀ J, ¬ hasC L1c q J l = true := fun J h => by
    simp only [hasC, L1c, List.any_cons, List.any_nil, Bool.or_false, Bool.or_eq_true, Bool.and_eq_true, decide_eq_true_eq] at h
    omega
  have n2 : ∀ J, ¬ hasC (L2c mo) q J l = true := fun J h => by
    simp only [hasC, L2c, List.any_cons, List.any_nil, Bool.or_false, Bool.or_eq_true, Bool.and_eq_true, decide_eq_true_eq] at h
    omega
  unfold cpBz
  rw [gI_i hi, gJ_uI, if_neg (by omega), gI_cpo hi hxy _ _ (L2_40 mo), gJ_cpo hi hxy _ _ (L2_40 mo), Nat.add_sub_cancel_left, if_neg (fun e => n2 _ e.2), if_neg (fun e => n2 _ e.2), gI_i hi, gJ_uI, if_neg (by omega), gI_cpo hi hxy _ _ L1_40, gJ_cpo hi hxy _ _ L1_40, Nat.add_sub_cancel_left, if_neg (fun e => n1 _ e.2), if_neg (fun e => n1 _ e.2)]
  exact ⟨rfl, rfl⟩
theorem SR0_cpz (S : St) : SR0 S (cpBz ad x y mo S) := (((SR0_cpo x y L1c S).trans (SR0_uI _ _ _ _)).trans (SR0_cpo x y (L2c mo) _)).trans (SR0_uI _ _ _ _)
theorem snap_cases {α : Type} (p : Int32) (x y : α) : (if p < 0 then x else if 2 ≤ p then x else y) = if vin p 2 then y else x := vin_cases p (n := 2) (by decide) x y
theorem ld21 (t : TR S ad) {s : Nat} (hs : s < 2) {β : Type} {k : Int32 → Option β} : ldI S (ad 21) (nI s) k = k (gI S (ad 21) s) := ldI_at (by rw [n_21 t]; exact hs) (by rw [n_21 t]; decide)
theorem ld4b (t : TR S ad) {s : Nat} (hs : s < 2) {β : Type} {k : Int32 → Option β} : ldI S (ad 4) (nI s) k = k (gI S (ad 4) s) := ldI_at (by rw [n_4 t]; exact hs) (by rw [n_4 t]; decide)
theorem ld20 (t : TR S ad) {s : Nat} (hs : s < 2) {β : Type} {k : Nat → Option β} : ldR S (ad 20) (nI s) k = k (ad (120 + 40 * s)) := by
  rw [ldR_at (by rw [n_20 t]; exact hs) (by rw [n_20 t]; decide)]
  rcases (show s = 0 ∨ s = 1 by omega) with rfl | rfl
  · rw [r_20_0 t]
  · rw [r_20_1 t]
theorem RE.sn (r : RE S ad b d j k v np nf no mo) : SNP S ad v np nf := r.2.2.2.2.2.2.1
theorem MK_restore (c : CV S ad b v np nf no mo) {s : Nat} (hs : s < 2) (hk : BK (fun i => v (5054 * (s + 1) + i)) np nf no' mo') (w : WF (fun i => v (5054 * (s + 1) + i)) np nf no' mo') (ws : WS (fun i => v (5054 * (s + 1) + i)) nf mo') (ax : AXs S ad (120 + 40 * s) (fun i => v (5054 * (s + 1) + i)) nf no' mo') (te : TE v (fun i => v (5054 * (s + 1) + i)) nf) : MK S (cpBz ad (120 + 40 * s) b mo' S) ad b v (cbV v (s + 1) 0) np nf no' mo' := by
  have hb := c.2.1
  have hf : FarN (120 + 40 * s) b := by unfold FarN; omega
  have hi := c.t.1
  have h4 := c.hp
  have h8 := c.hf
  obtain ⟨b1, b2, b3, b0, -, -, b16, b60⟩ := hk
  have ev : ∀ i, i < 5054 → cbV v (s + 1) 0 i = (fun i => v (5054 * (s + 1) + i)) i := fun i hi => by
    unfold cbV; rw [if_pos (by omega), Nat.mul_zero, Nat.sub_zero]
  have hx := AXs_copy hi hf h8 b16 b60 ax
  refine ⟨⟨SR0_cpz S, fun p hp hn => ?_, fun i _ => (cpz_far hi hf S (by omega) i).1⟩, ⟨AXG_w (fun i hi => ev i (by omega)) hx.1, AXO_w (fun i hi => ev i (by omega)) b16 hx.2.1, AXF_w (fun f q hf hq => ev _ (by omega)) hx.2.2.1, AXR_w (fun f q hf hq => ev _ (by omega)) hx.2.2.2.1, AXB_w (fun i hi => ev i (by omega)) (fun f q hf hq => ev _ (by omega)) h8 b60 hx.2.2.2.2⟩, ?_, ?_, fun i hi => by unfold cbV; rw [if_neg (by omega)], (ev 3 (by decide)).trans b3, (ev 0 (by decide)).trans b0, b16, b60, fun m e hm' w' => WS_w (fun f q hf hq => ev _ (by omega)) (ev 11 (by decide)) ws⟩
  · by_cases h : b ≤ p ∧ p < b + 40
    · obtain ⟨q, rfl⟩ : ∃ q, p = b + q := ⟨p - b, by omega⟩
      exact cpz_not hi hf S (fun hq => hn (Or.inr ⟨q, hq, rfl⟩))
    · exact cpz_far hi hf S (by omega)
  · exact WF_w (fun i hi => ev i (by omega)) (fun f q hf hq => ev _ (by omega)) (fun i hi => ev _ (by omega)) h4 h8 b16 b60 w
  · exact ⟨fun i hi => (ev i (by omega)).trans (te.1 i hi), fun f hf => (ev _ (by omega)).trans (te.2 f hf)⟩
theorem W_60 : StpW ad f_law_60 := by
  intro Ls xs S c i ⟨b, d, j, k, v, np, nf, no, mo, r⟩ hi hL hc
  have cv := r.1
  have t := cv.t
  have hb := cv.2.1
  have s1 : ∀ (β : Type) (k : Int32 → Option β), sx Ls xs (nI i + 1) k = k (xs (i + 1)) := fun β k => by rw [da1, sx_at hL (by omega)]
  generalize xs (i + 1) = p at s1
  have e6 : (decide ((0 : Int64) ≤ p.toInt64) && decide (p.toInt64 ≤ 1)) = vin p 2 := rng_vin p (n := 2) (by decide)
  cases hv : vin p 2
  · refine ⟨_, c, REL_t r 0, by omega, fun kont => ?_⟩
    simp only [f_law_60, s1, f_X11_restoreSnapshot, snap_cases, hv, Bool.false_eq_true, if_false, cl_n, f_X12_restoreSnapshot, lt_n, M_inRange, e6, if_bI, if_true]
  · obtain ⟨s, hs, rfl⟩ := vin_of (by decide) hv
    have sn : SN1 S ad v np nf s := by rcases (show s = 0 ∨ s = 1 by omega) with rfl | rfl; exact r.sn.1; exact r.sn.2
    obtain ⟨g1, g2⟩ := sn
    have t1 : TR (uI S (ad 1) 2 0) ad := TR_SR0 (SR0_uI _ _ _ _) t
    rcases g2 with g2 | ⟨g2, no', mo', bk, ⟨w, ws⟩, ax, te⟩
    · refine ⟨_, c, REL_t r 0, by omega, fun kont => ?_⟩
      have g4 : gI (uI S (ad 1) 2 0) (ad 4) s = 0 := by rw [gI_i t.1, if_neg (by omega)]; exact g2
      simp only [f_law_60, s1, f_X11_restoreSnapshot, snap_cases, hv, if_true, lt_n, r_0_4 t, ld21 t hs, g1, g2, cl_n, f_X12_restoreSnapshot, M_inRange, e6, if_bI, r_1_1 t1, ld4b t1 hs, g4]
    · have mk := MK_restore cv hs bk w ws ax te
      have tm := mk.1.t t
      have hf : FarN (120 + 40 * s) b := by unfold FarN; omega
      have hB2 : BB (120 + 40 * s) := by unfold BB; omega
      have g4 : gI (cpBz ad (120 + 40 * s) b mo' S) (ad 4) s = 1 := by rw [(cpz_far t.1 hf S (by omega) s).1]; exact g2
      have m1 := Mv_t (mk.mv hb r.m) (ad 1) 2 0
      have g4' : gI (uI (cpBz ad (120 + 40 * s) b mo' S) (ad 1) 2 0) (ad 4) s = 1 := by rw [gI_i t.1, if_neg (by omega)]; exact g4
      have e6b : gI S (ad (120 + 40 * s + 6)) 6 = nI mo' := ax.2.2.2.2.1
      have hM : f_X12_copyBlock (uI (cpBz ad (120 + 40 * s) b mo' S) (ad 1) 2 0) (ad 1) (1 + nI s) 0 = some (qJ (uI (cpBz ad (120 + 40 * s) b mo' S) (ad 1) 2 0) (ad 3) (cbV v (s + 1) 0)) := M_copyB m1.1 m1.2.1 (by rw [ad1, Nat.add_comm]) rfl (by omega) (by decide) (by omega)
      have rk : RK (cpBz ad (120 + 40 * s) b mo' S) (qJ (uI (cpBz ad (120 + 40 * s) b mo' S) (ad 1) 2 0) (ad 3) (cbV v (s + 1) 0)) ad (cbV v (s + 1) 0) := RK_q (RK.rf (mk.mv hb r.m)) tm
      refine ⟨_, c, ⟨b, d, j, k, _, np, nf, no', mo', RE_fin0 r mk rk⟩, by omega, fun kont => ?_⟩
      simp only [f_law_60, s1, f_X11_restoreSnapshot, snap_cases, hv, if_true, lt_n, r_0_4 t, ld21 t hs, g1, g2, i10, if_false, cv.r, r_0_3 t, ld20 t hs, C_copy t hB2 cv.hb hf bk.2.2.2.2.2.2.2 e6b, cl_n, f_X12_restoreSnapshot, M_inRange, e6, if_bI, r_1_1 m1.1, ld4b m1.1 hs, g4', hM]
