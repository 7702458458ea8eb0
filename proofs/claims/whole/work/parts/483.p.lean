/-! the pure part: a franchisee's statement -/
variable {S S0 S1 S2 S' S'' S3 X Y : St} {ad : Nat → Nat} {b d j k : Nat} {v v0 v' v1 v2 u u' w : Nat → Int64} {np nf no mo no' mo' x y : Nat}
theorem fit_l : ∀ l, l < 27 → fits .byte (.int (nI (96 + l))) = true := by decide +kernel
theorem cpB_at {β : Type} {a c s dp n : Nat} {K : St → Option β} (hb : ∀ i, i < n → isLt (gI S a (s + i)) = true) (h1 : s + n ≤ gN S a) (h2 : dp + n ≤ gN S c) (h3 : gN S a < 2 ^ 31) (h4 : gN S c < 2 ^ 31) : cpB S a (nI s) c (nI dp) (nI n) K = K (cpyI S a s c dp n) := by
  unfold cpB
  rw [if_pos, cpI_at rfl rfl rfl h1 h2 h3 h4]
  rw [List.all_eq_true]
  intro i hi
  rw [List.mem_range, nI_clamp (by omega)] at hi
  rw [nI_clamp (by omega)]
  obtain ⟨l1, l2, e⟩ := isLt_of (hb i hi)
  rw [e]
  exact fit_l _ (by omega)
theorem nmV_cg {val : Int64} : ∀ r m, (∀ f, m ≤ f → f < m + r → u' (58 + 16 * f + 0) = u (58 + 16 * f + 0)) → nmV u' val r m = nmV u val r m := by
  intro r
  induction r with
  | zero => intro m _; rfl
  | succ r ih =>
    intro m h
    rw [nmV, nmV, h m (Nat.le_refl _) (by omega), ih (m + 1) (fun f h1 h2 => h f (by omega) (by omega))]
theorem nmV_d {val : Int64} (h8 : nf ≤ 8) : nmV (fun i => dV v u (5054 * 3 + i)) val nf 0 = nmV u val nf 0 := nmV_cg nf 0 (fun f _ hf => dV_at (k := 58 + 16 * f + 0) (by omega))
theorem nmX_d {B : Nat → Int32} {n e : Nat} (h8 : nf ≤ 8) : nmX B n e (fun i => dV v u (5054 * 3 + i)) nf = nmX B n e u nf := nmV_d h8
theorem eNm_d {B : Nat → Int32} {n e : Nat} {kn : Bool} (h8 : nf ≤ 8) : eNm B n e (fun i => dV v u (5054 * 3 + i)) nf kn = eNm B n e u nf kn := by
  unfold eNm; rw [nmX_d h8]
/-- the name of a draft's franchisee, the reference -/
theorem R_nmD {B : Nat → Int32} {n e : Nat} (r : RS X ad B n e) (hv : gJ X (ad 3) = dV v u) (h2 : u 2 = lN nf) (h8 : nf ≤ 8) : (eNm B n e u nf true = none ∧ ∃ f X', f < nf ∧ nmX B n e u nf = nI f ∧ f_X12_readName X (ad 1) 3 = some (nI f, X') ∧ RS X' ad B n (tkR B n e) ∧ RX X X' ad P0 Qt) ∨ (∃ c, eNm B n e u nf true = some (c, tkS B n e) ∧ (1 ≤ c ∧ c ≤ 5) ∧ ∃ X', f_X12_readName X (ad 1) 3 = some (-1, X') ∧ RFl X X' ad P0 Qf c (tkS B n e)) := by
  have h := R_name (p := 3) (i1 := 3) r hv (by decide) rfl (by rw [← h2]; exact dV_at (k := 2) (by decide)) h8
  rw [eNm_d h8, nmX_d h8] at h
  exact h
/-- the ledger's franchisees with one more -/
def afS (S : St) (ad : Nat → Nat) (d nf s n : Nat) (p w : Int32) : St := uI (uJ (uI (uI (uI (uI (uI (uI (cpyI S (ad 13) s (ad (d + 19)) (nf * 10) n) (ad (d + 20)) nf (nI n)) (ad (d + 21)) nf p) (ad (d + 22)) nf w) (ad (d + 23)) nf 0) (ad (d + 24)) nf 0) (ad (d + 25)) nf 0) (ad (d + 26)) nf 0) (ad (d + 4)) 8 (nI (nf + 1))
theorem C_addF {s n : Nat} {p w : Int32} (t : TR S ad) (hb : BB d) (h8 : gI S (ad (d + 4)) 8 = nI nf) (hf : nf < 8) (hs : s + n ≤ 1500) (hn : n ≤ 10) (hl : ∀ i, i < n → isLt (gI S (ad 13) (s + i)) = true) : f_X2_add S (ad (d + 4)) (ad 13) (nI s) (nI n) p w = some (afS S ad d nf s n p w) := by
  have hd : d = 40 ∨ d = 80 ∨ d = 120 ∨ d = 160 := hb
  have n8 : ¬ (8 : Int32) ≤ nI nf := ge8 hf
  have q1 : ¬ nI n < 0 := nI_pos (by omega)
  have q2 : ¬ (10 : Int32) < nI n := by rw [show (10 : Int32) = nI 10 from rfl, nI_ltI (by omega) (by omega)]; omega
  have q3 : ¬ nI s < 0 := nI_pos (by omega)
  have q4 : nI s ≤ nI 1500 - nI n := by rw [nI_sub (by omega), nI_leI (by omega) (by omega)]; omega
  have t1 : TR (cpyI S (ad 13) s (ad (d + 19)) (nf * 10) n) ad := TR_SR0 (SR0_cpyI _ _ _ _ _ _) t
  have g1 : gI (cpyI S (ad 13) s (ad (d + 19)) (nf * 10) n) (ad (d + 4)) 8 = nI nf := by
    rw [gI_cpyI, if_neg (fun z => absurd ((t.1 _ _).mp z.1) (by omega))]; exact h8
  have cp : ∀ (K : St → Option St), cpB S (ad 13) (nI s) (ad (d + 19)) (nI (nf * 10)) (nI n) K = K (cpyI S (ad 13) s (ad (d + 19)) (nf * 10) n) := fun K => cpB_at hl (by rw [n_13 t]; exact hs) (by rw [n_b19 t hb]; omega) (by rw [n_13 t]; decide) (by rw [n_b19 t hb]; decide)
  simp only [f_X2_add, lt_n, h8, n8, if_false, q1, q2, q3, n_13 t, q4, if_true, r_b4_0 t hb, um10, cp]
  obtain ⟨Z1, e1⟩ : ∃ Z, Z = cpyI S (ad 13) s (ad (d + 19)) (nf * 10) n := ⟨_, rfl⟩
  rw [← e1] at t1 g1
  rw [← e1]
  obtain ⟨Z2, e2⟩ : ∃ Z, Z = uI Z1 (ad (d + 20)) nf (nI n) := ⟨_, rfl⟩
  have t2 : TR Z2 ad := by rw [e2]; exact TR_SR0 (SR0_uI _ _ _ _) t1
  have g2 : gI Z2 (ad (d + 4)) 8 = nI nf := by rw [e2]; exact ((Ag_uI t1 (by omega) 8).1).trans g1
  rw [r_b4_1 t1 hb, g1, sb20 t1 hb hf, ← e2]
  obtain ⟨Z3, e3⟩ : ∃ Z, Z = uI Z2 (ad (d + 21)) nf (p) := ⟨_, rfl⟩
  have t3 : TR Z3 ad := by rw [e3]; exact TR_SR0 (SR0_uI _ _ _ _) t2
  have g3 : gI Z3 (ad (d + 4)) 8 = nI nf := by rw [e3]; exact ((Ag_uI t2 (by omega) 8).1).trans g2
  rw [r_b4_2 t2 hb, g2, sb21 t2 hb hf, ← e3]
  obtain ⟨Z4, e4⟩ : ∃ Z, Z = uI Z3 (ad (d + 22)) nf (w) := ⟨_, rfl⟩
  have t4 : TR Z4 ad := by rw [e4]; exact TR_SR0 (SR0_uI _ _ _ _) t3
  have g4 : gI Z4 (ad (d + 4)) 8 = nI nf := by rw [e4]; exact ((Ag_uI t3 (by omega) 8).1).trans g3
  rw [r_b4_3 t3 hb, g3, sb22 t3 hb hf, ← e4]
  obtain ⟨Z5, e5⟩ : ∃ Z, Z = uI Z4 (ad (d + 23)) nf (0) := ⟨_, rfl⟩
  have t5 : TR Z5 ad := by rw [e5]; exact TR_SR0 (SR0_uI _ _ _ _) t4
  have g5 : gI Z5 (ad (d + 4)) 8 = nI nf := by rw [e5]; exact ((Ag_uI t4 (by omega) 8).1).trans g4
  rw [r_b4_4 t4 hb, g4, sb23 t4 hb hf, ← e5]
  obtain ⟨Z6, e6⟩ : ∃ Z, Z = uI Z5 (ad (d + 24)) nf (0) := ⟨_, rfl⟩
  have t6 : TR Z6 ad := by rw [e6]; exact TR_SR0 (SR0_uI _ _ _ _) t5
  have g6 : gI Z6 (ad (d + 4)) 8 = nI nf := by rw [e6]; exact ((Ag_uI t5 (by omega) 8).1).trans g5
  rw [r_b4_5 t5 hb, g5, sb24 t5 hb hf, ← e6]
  obtain ⟨Z7, e7⟩ : ∃ Z, Z = uI Z6 (ad (d + 25)) nf (0) := ⟨_, rfl⟩
  have t7 : TR Z7 ad := by rw [e7]; exact TR_SR0 (SR0_uI _ _ _ _) t6
  have g7 : gI Z7 (ad (d + 4)) 8 = nI nf := by rw [e7]; exact ((Ag_uI t6 (by omega) 8).1).trans g6
  rw [r_b4_6 t6 hb, g6, sb25 t6 hb hf, ← e7]
  obtain ⟨Z8, e8⟩ : ∃ Z, Z = uJ Z7 (ad (d + 26)) nf (0) := ⟨_, rfl⟩
  have t8 : TR Z8 ad := by rw [e8]; exact TR_SR0 (SR0_uJ _ _ _ _) t7
  have g8 : gI Z8 (ad (d + 4)) 8 = nI nf := by rw [e8]; exact ((Ag_uJ t7 (by omega) 8).1).trans g7
  rw [r_b4_7 t7 hb, g7, sb26 t7 hb hf, ← e8]
  rw [g8, da1, afS, ← e1, ← e2, ← e3, ← e4, ← e5, ← e6, ← e7, ← e8]
def afV (u : Nat → Int64) (nf : Nat) (val p w : Int64) : Nat → Int64 := udt (udt (udt (udt u (58 + 16 * nf + 0) val) (58 + 16 * nf + 1) p) (58 + 16 * nf + 2) w) 2 (lN (nf + 1))
theorem afV_n {val p w : Int64} {i : Nat} (h2 : i ≠ 2) (h : i < 58 + 16 * nf ∨ 58 + 16 * nf + 2 < i) : afV u nf val p w i = u i := by
  unfold afV
  rw [udt_n h2, udt_n (by omega), udt_n (by omega), udt_n (by omega)]
theorem afS_k {s n : Nat} {p w : Int32} (t : TR S ad) : KCx S (afS S ad d nf s n p w) ad (fun p => p = d + 4 ∨ (d + 19 ≤ p ∧ p ≤ d + 26)) := by
  have k0 : KCx S (cpyI S (ad 13) s (ad (d + 19)) (nf * 10) n) ad (fun p => p = d + 4 ∨ (d + 19 ≤ p ∧ p ≤ d + 26)) := ⟨SR0_cpyI _ _ _ _ _ _, fun q hn i => ⟨by rw [gI_cpyI, if_neg]; intro z; have := (t.1 _ _).mp z.1; exact hn (Or.inr (by omega)), rfl⟩⟩
  unfold afS
  have k1 := k0.tr (KCx_uI (p := d + 20) (i := nf) (w := nI n) (k0.t t) (Or.inr (by omega)))
  have k2 := k1.tr (KCx_uI (p := d + 21) (i := nf) (w := p) (k1.t t) (Or.inr (by omega)))
  have k3 := k2.tr (KCx_uI (p := d + 22) (i := nf) (w := w) (k2.t t) (Or.inr (by omega)))
  have k4 := k3.tr (KCx_uI (p := d + 23) (i := nf) (w := 0) (k3.t t) (Or.inr (by omega)))
  have k5 := k4.tr (KCx_uI (p := d + 24) (i := nf) (w := 0) (k4.t t) (Or.inr (by omega)))
  have k6 := k5.tr (KCx_uI (p := d + 25) (i := nf) (w := 0) (k5.t t) (Or.inr (by omega)))
  have k7 := k6.tr (KCx_uJ (p := d + 26) (i := nf) (w := 0) (k6.t t) (Or.inr (by omega)))
  exact k7.tr (KCx_uI (p := d + 4) (i := 8) (w := nI (nf + 1)) (k7.t t) (Or.inl rfl))
theorem afS_4 {s n : Nat} {p w : Int32} : gI (afS S ad d nf s n p w) (ad (d + 4)) 8 = nI (nf + 1) := by rw [afS, gI_uI, if_pos ⟨rfl, rfl⟩]
theorem afS_20 {s n l : Nat} {p w : Int32} (t : TR S ad) : gI (afS S ad d nf s n p w) (ad (d + 20)) l = if l = nf then nI n else gI S (ad (d + 20)) l := by
  rw [afS, gI_i t.1, if_neg (by omega), gI_uJ, gI_i t.1, if_neg (by omega), gI_i t.1, if_neg (by omega), gI_i t.1, if_neg (by omega), gI_i t.1, if_neg (by omega), gI_i t.1, if_neg (by omega), gI_i t.1]
  by_cases h : l = nf
  · rw [if_pos ⟨rfl, h⟩, if_pos h]
  · rw [if_neg (fun z => h z.2), if_neg h, gI_cpyI, if_neg (fun z => absurd ((t.1 _ _).mp z.1) (by omega))]
theorem afS_21 {s n l : Nat} {p w : Int32} (t : TR S ad) : gI (afS S ad d nf s n p w) (ad (d + 21)) l = if l = nf then p else gI S (ad (d + 21)) l := by
  rw [afS, gI_i t.1, if_neg (by omega), gI_uJ, gI_i t.1, if_neg (by omega), gI_i t.1, if_neg (by omega), gI_i t.1, if_neg (by omega), gI_i t.1, if_neg (by omega), gI_i t.1]
  by_cases h : l = nf
  · rw [if_pos ⟨rfl, h⟩, if_pos h]
  · rw [if_neg (fun z => h z.2), if_neg h, gI_i t.1, if_neg (by omega), gI_cpyI, if_neg (fun z => absurd ((t.1 _ _).mp z.1) (by omega))]
theorem afS_22 {s n l : Nat} {p w : Int32} (t : TR S ad) : gI (afS S ad d nf s n p w) (ad (d + 22)) l = if l = nf then w else gI S (ad (d + 22)) l := by
  rw [afS, gI_i t.1, if_neg (by omega), gI_uJ, gI_i t.1, if_neg (by omega), gI_i t.1, if_neg (by omega), gI_i t.1, if_neg (by omega), gI_i t.1]
  by_cases h : l = nf
  · rw [if_pos ⟨rfl, h⟩, if_pos h]
  · rw [if_neg (fun z => h z.2), if_neg h, gI_i t.1, if_neg (by omega), gI_i t.1, if_neg (by omega), gI_cpyI, if_neg (fun z => absurd ((t.1 _ _).mp z.1) (by omega))]
theorem afS_23 {s n l : Nat} {p w : Int32} (t : TR S ad) : gI (afS S ad d nf s n p w) (ad (d + 23)) l = if l = nf then 0 else gI S (ad (d + 23)) l := by
  rw [afS, gI_i t.1, if_neg (by omega), gI_uJ, gI_i t.1, if_neg (by omega), gI_i t.1, if_neg (by omega), gI_i t.1]
  by_cases h : l = nf
  · rw [if_pos ⟨rfl, h⟩, if_pos h]
  · rw [if_neg (fun z => h z.2), if_neg h, gI_i t.1, if_neg (by omega), gI_i t.1, if_neg (by omega), gI_i t.1, if_neg (by omega), gI_cpyI, if_neg (fun z => absurd ((t.1 _ _).mp z.1) (by omega))]
theorem afS_24 {s n l : Nat} {p w : Int32} (t : TR S ad) : gI (afS S ad d nf s n p w) (ad (d + 24)) l = if l = nf then 0 else gI S (ad (d + 24)) l := by
  rw [afS, gI_i t.1, if_neg (by omega), gI_uJ, gI_i t.1, if_neg (by omega), gI_i t.1]
  by_cases h : l = nf
  · rw [if_pos ⟨rfl, h⟩, if_pos h]
  · rw [if_neg (fun z => h z.2), if_neg h, gI_i t.1, if_neg (by omega), gI_i t.1, if_neg (by omega), gI_i t.1, if_neg (by omega), gI_i t.1, if_neg (by omega), gI_cpyI, if_neg (fun z => absurd ((t.1 _ _).mp z.1) (by omega))]
theorem afS_25 {s n l : Nat} {p w : Int32} (t : TR S ad) : gI (afS S ad d nf s n p w) (ad (d + 25)) l = if l = nf then 0 else gI S (ad (d + 25)) l := by
  rw [afS, gI_i t.1, if_neg (by omega), gI_uJ, gI_i t.1]
  by_cases h : l = nf
  · rw [if_pos ⟨rfl, h⟩, if_pos h]
  · rw [if_neg (fun z => h z.2), if_neg h, gI_i t.1, if_neg (by omega), gI_i t.1, if_neg (by omega), gI_i t.1, if_neg (by omega), gI_i t.1, if_neg (by omega), gI_i t.1, if_neg (by omega), gI_cpyI, if_neg (fun z => absurd ((t.1 _ _).mp z.1) (by omega))]
theorem afS_26 {s n l : Nat} {p w : Int32} (t : TR S ad) : gJ (afS S ad d nf s n p w) (ad (d + 26)) l = if l = nf then 0 else gJ S (ad (d + 26)) l := by
  rw [afS, gJ_uI, gJ_i t.1]
  by_cases h : l = nf
  · rw [if_pos ⟨rfl, h⟩, if_pos h]
  · rw [if_neg (fun z => h z.2), if_neg h]; rfl
theorem afS_19 {s n l : Nat} {p w : Int32} (t : TR S ad) : gI (afS S ad d nf s n p w) (ad (d + 19)) l = if nf * 10 ≤ l ∧ l < nf * 10 + n then gI S (ad 13) (s + (l - nf * 10)) else gI S (ad (d + 19)) l := by
  rw [afS, gI_i t.1, if_neg (by omega), gI_uJ, gI_i t.1, if_neg (by omega), gI_i t.1, if_neg (by omega), gI_i t.1, if_neg (by omega), gI_i t.1, if_neg (by omega), gI_i t.1, if_neg (by omega), gI_i t.1, if_neg (by omega), gI_cpyI]
  by_cases h : nf * 10 ≤ l ∧ l < nf * 10 + n
  · rw [if_pos ⟨rfl, h⟩, if_pos h]
  · rw [if_neg (fun z => h z.2), if_neg h]
theorem lN_z : lN 0 = 0 := rfl
theorem DV_aF {s n p w : Nat} (c : DV S ad d u np nf no) (hf : nf < 8) (hn : 1 ≤ n) (hn10 : n ≤ 10) (hl : ∀ i, i < n → isLt (gI S (ad 13) (s + i)) = true) (hp : p < np) (hw : w ≤ 999) : DV (afS S ad d nf s n (nI p) (nI w)) ad d (afV u nf (pkd (fun i => gI S (ad 13) (s + i)) n) (lN p) (lN w)) np (nf + 1) no := by
  have hp4 := c.hp
  have ho := c.ho
  have hd := c.hd
  have t := c.t
  have kk := afS_k (d := d) (nf := nf) (s := s) (n := n) (p := nI p) (w := nI w) t
  have a4 := afS_4 (S := S) (ad := ad) (d := d) (nf := nf) (s := s) (n := n) (p := nI p) (w := nI w)
  have a19 := fun l => afS_19 (d := d) (nf := nf) (s := s) (n := n) (l := l) (p := nI p) (w := nI w) t
  have a20 := fun l => afS_20 (d := d) (nf := nf) (s := s) (n := n) (l := l) (p := nI p) (w := nI w) t
  have a21 := fun l => afS_21 (d := d) (nf := nf) (s := s) (n := n) (l := l) (p := nI p) (w := nI w) t
  have a22 := fun l => afS_22 (d := d) (nf := nf) (s := s) (n := n) (l := l) (p := nI p) (w := nI w) t
  have a23 := fun l => afS_23 (d := d) (nf := nf) (s := s) (n := n) (l := l) (p := nI p) (w := nI w) t
  have a24 := fun l => afS_24 (d := d) (nf := nf) (s := s) (n := n) (l := l) (p := nI p) (w := nI w) t
  have a25 := fun l => afS_25 (d := d) (nf := nf) (s := s) (n := n) (l := l) (p := nI p) (w := nI w) t
  have a26 := fun l => afS_26 (d := d) (nf := nf) (s := s) (n := n) (l := l) (p := nI p) (w := nI w) t
  have hu : ∀ i, i ≠ 2 → (i < 58 + 16 * nf ∨ 58 + 16 * nf + 2 < i) → afV u nf (pkd (fun i => gI S (ad 13) (s + i)) n) (lN p) (lN w) i = u i := fun i h2 h => afV_n h2 h
  have v0 : afV u nf (pkd (fun i => gI S (ad 13) (s + i)) n) (lN p) (lN w) (58 + 16 * nf + 0) = pkd (fun i => gI S (ad 13) (s + i)) n := by
    unfold afV; rw [udt_n (by omega), udt_n (by omega), udt_n (by omega), udt_e]
  have v1 : afV u nf (pkd (fun i => gI S (ad 13) (s + i)) n) (lN p) (lN w) (58 + 16 * nf + 1) = lN p := by
    unfold afV; rw [udt_n (by omega), udt_n (by omega), udt_e]
  have v2 : afV u nf (pkd (fun i => gI S (ad 13) (s + i)) n) (lN p) (lN w) (58 + 16 * nf + 2) = lN w := by
    unfold afV; rw [udt_n (by omega), udt_e]
  have v3 : afV u nf (pkd (fun i => gI S (ad 13) (s + i)) n) (lN p) (lN w) 2 = lN (nf + 1) := by
    unfold afV; rw [udt_e]
  generalize afV u nf (pkd (fun i => gI S (ad 13) (s + i)) n) (lN p) (lN w) = u' at hu v0 v1 v2 v3
  generalize afS S ad d nf s n (nI p) (nI w) = S' at kk a4 a19 a20 a21 a22 a23 a24 a25 a26
  have hq : ∀ q, q ≠ 4 → (q < 19 ∨ 26 < q) → Ag S S' ad (d + q) := fun q h1 h2 => kk.2 _ (fun (z : d + q = d + 4 ∨ (d + 19 ≤ d + q ∧ d + q ≤ d + 26)) => by omega)
  obtain ⟨w0, wp, wf, wo, wc, wd, ws, wr⟩ := c.w
  obtain ⟨z1, z2, z3, z4⟩ := c.Z
  have zz : ∀ q, 3 ≤ q → q < 16 → u' (58 + 16 * nf + q) = 0 := fun q h1 h2 => (hu _ (by omega) (by omega)).trans (z1 nf q (Nat.le_refl _) hf h2)
  obtain ⟨x1, x2⟩ := c.ws
  obtain ⟨n1, n2⟩ := c.N
  obtain ⟨b1, b2, b3, b4, b5, b6, b7⟩ := c.B
  refine ⟨⟨kk.t t, trivial, by rw [hu 1 (by omega) (by omega)]; exact c.u1, v3, by rw [hu 3 (by omega) (by omega)]; exact c.u3, by rw [hu 0 (by omega) (by omega)]; exact c.u0, hp4, by omega, ho, by omega⟩, hd, ⟨?_, fun q hqq => by rw [hu _ (by omega) (by omega)]; exact wp q hqq, fun f hff => ?_, fun o hoo => ?_, fun i hi => ?_, fun i hi => by rw [hu _ (by omega) (by omega)]; exact wd i hi, by rw [hu 11 (by omega) (by omega), hu 12 (by omega) (by omega), hu 13 (by omega) (by omega)]; exact ws, fun k f hk0 hf => absurd hk0 (by omega)⟩, ⟨fun f hff => ?_, by rw [hu 11 (by omega) (by omega)]; exact x2⟩, AXT_w (fun i hi => hu i (by omega) (by omega)) hp4 (AXT_c (fun q h => hq q (by omega) (by omega)) c.T), AXG_w (fun i hi => hu i (by omega) (by omega)) (AXG_c (hq 12 (by omega) (by omega)) c.G), AXO_w (fun i hi => hu i (by omega) (by omega)) ho (AXO_c (fun q h => hq q (by omega) (by omega)) c.O), ⟨a4, fun f hff => ?_⟩, fun f hff => ?_, fun f hff => ?_, ⟨(hq 6 (by omega) (by omega) 6).1.trans b1, fun k hk => by rw [hu _ (by omega) (by omega), (hq 35 (by omega) (by omega) k).2]; exact b2 k hk, fun k hk => by rw [hu _ (by omega) (by omega), (hq 38 (by omega) (by omega) k).2]; exact b3 k hk, fun f hff => ?_, fun f h1 h2 => by rw [(hq 36 (by omega) (by omega) f).2]; exact b5 f (by omega) h2, fun k f hk => absurd hk (by omega), fun k f q hk => absurd hk (by omega)⟩, ⟨fun f q h1 h2 h3 => by rw [hu _ (by omega) (by omega)]; exact z1 f q (by omega) h2 h3, fun p q h1 h2 h3 => by rw [hu _ (by omega) (by omega)]; exact z2 p q h1 h2 h3, fun o h => by rw [hu _ (by omega) (by omega)]; exact z3 o h, fun f h => by rw [(hq 27 (by omega) (by omega) f).1, (hq 36 (by omega) (by omega) f).2, (hq 37 (by omega) (by omega) f).2]; exact z4 f h⟩⟩
  · rw [hu 4 (by omega) (by omega), hu 5 (by omega) (by omega), hu 6 (by omega) (by omega), hu 7 (by omega) (by omega), hu 8 (by omega) (by omega), hu 9 (by omega) (by omega)]; exact w0
  · by_cases e : f = nf
    · subst e
      exact ⟨⟨p, hp, v1⟩, ⟨0, by omega, (zz 5 (by omega) (by omega))⟩, ⟨0, by omega, (zz 6 (by omega) (by omega))⟩, ⟨0, by omega, (zz 7 (by omega) (by omega))⟩⟩
    · rw [hu _ (by omega) (by omega), hu _ (by omega) (by omega), hu _ (by omega) (by omega), hu _ (by omega) (by omega)]; exact wf f (by omega)
  · obtain ⟨⟨x, y, hx, hy, e1, e2, e3⟩, s, hs, e4⟩ := wo o hoo
    refine ⟨⟨x, y, hx, hy, by rw [hu _ (by omega) (by omega)]; exact e1, by rw [hu _ (by omega) (by omega)]; exact e2, ?_⟩, s, hs, by rw [hu _ (by omega) (by omega)]; exact e4⟩
    rw [hu (186 + 4 * o + 0) (by omega) (by omega), hu (250 + (30 * y + x)) (by omega) (by omega)]
    exact e3.imp id (fun ⟨f, h1, h2⟩ => ⟨f, by omega, h2⟩)
  · rw [hu _ (by omega) (by omega)]
    exact (wc i hi).imp id (fun ⟨f, h1, h2⟩ => ⟨f, by omega, h2⟩)
  · by_cases e : f = nf
    · subst e
      exact ⟨⟨0, by omega, (zz 5 (by omega) (by omega))⟩, ⟨0, by omega, (zz 6 (by omega) (by omega))⟩, ⟨0, by omega, (zz 7 (by omega) (by omega))⟩⟩
    · rw [hu _ (by omega) (by omega), hu _ (by omega) (by omega), hu _ (by omega) (by omega)]; exact x1 f (by omega)
  · by_cases e : f = nf
    · subst e
      have eq : ∀ i, i < n → gI S' (ad (d + 19)) (10 * f + i) = gI S (ad 13) (s + i) := fun i hi => by
        rw [a19, if_pos (by omega), show 10 * f + i - f * 10 = i by omega]
      refine ⟨n, hn, hn10, by rw [a20, if_pos rfl], fun i hi => ?_, ?_⟩
      · obtain ⟨l1, l2, e⟩ := isLt_of (hl i hi)
        exact ⟨_, l1, l2, (eq i hi).trans e⟩
      · rw [v0]
        exact (pkd_cg n eq).symm
    · obtain ⟨m, m1, m2, m3, m4, m5⟩ := n2 f (by omega)
      have eq : ∀ i, i < m → gI S' (ad (d + 19)) (10 * f + i) = gI S (ad (d + 19)) (10 * f + i) := fun i hi => by rw [a19, if_neg (by omega)]
      refine ⟨m, m1, m2, by rw [a20, if_neg e]; exact m3, fun i hi => by rw [eq i hi]; exact m4 i hi, ?_⟩
      rw [hu _ (by omega) (by omega), m5]
      exact (pkd_cg m eq).symm
  · by_cases e : f = nf
    · subst e
      refine ⟨?_, ?_, ?_, ?_, ?_, ?_⟩
      · rw [v1, a21, if_pos rfl, nI_l (by omega)]
      · rw [v2, a22, if_pos rfl, nI_l (by omega)]
      · rw [zz 3 (by omega) (by omega), a23, if_pos rfl]; rfl
      · rw [zz 4 (by omega) (by omega), a26, if_pos rfl]
      · rw [zz 5 (by omega) (by omega), a24, if_pos rfl]; rfl
      · rw [zz 6 (by omega) (by omega), a25, if_pos rfl]; rfl
    · rw [hu _ (by omega) (by omega), hu _ (by omega) (by omega), hu _ (by omega) (by omega), hu _ (by omega) (by omega), hu _ (by omega) (by omega), hu _ (by omega) (by omega), a21, a22, a23, a24, a25, a26, if_neg e, if_neg e, if_neg e, if_neg e, if_neg e, if_neg e]
      exact c.F f (by omega)
  · by_cases e : f = nf
    · subst e
      have g : gI S' (ad (d + 27)) f = 0 := (hq 27 (by omega) (by omega) f).1.trans (z4 f hf).1
      refine ⟨by rw [zz 9 (by omega) (by omega), g]; rfl, fun h => ?_, fun h => ?_⟩
      · rw [g] at h; exact absurd h (by decide)
      · rw [g] at h; exact absurd h (by decide)
    · exact AXR_w (nf := nf) (fun f q h1 h2 => hu _ (by omega) (by omega)) (AXR_c (fun q h => hq q (by omega) (by omega)) c.R) f (by omega)
  · by_cases e : f = nf
    · subst e
      exact ⟨by rw [zz 7 (by omega) (by omega), (hq 36 (by omega) (by omega) f).2, (z4 f hf).2.1], by rw [zz 8 (by omega) (by omega), (hq 37 (by omega) (by omega) f).2, (z4 f hf).2.2]⟩
    · rw [hu _ (by omega) (by omega), hu _ (by omega) (by omega), (hq 36 (by omega) (by omega) f).2, (hq 37 (by omega) (by omega) f).2]
      exact b4 f (by omega)
theorem plan_lt {B : Nat → Int32} {n e : Nat} (he : e ≤ n) (h4 : np ≤ 4) (h : eNum B n e 0 (nI np - 1) = none) : vNum B n e 0 (nI np - 1) < np := by
  rw [vNum, if_pos h]
  unfold eNum at h
  by_cases hk : tkK B n e = 2
  · rw [if_pos hk] at h
    by_cases hr : 0 ≤ tkN B n e ∧ nI (tkN B n e) ≤ nI np - 1
    · have h1 := (tkN_f he hk).1
      have h2 := hr.2
      rw [Int32.le_iff_toInt_le, nI_toInt (by omega)] at h2
      have h3 : (nI np - 1).toInt = (np : Int) - 1 := by
        rcases (show np = 0 ∨ np = 1 ∨ np = 2 ∨ np = 3 ∨ np = 4 by omega) with rfl | rfl | rfl | rfl | rfl <;> decide
      omega
    · rw [if_neg hr] at h; simp at h
  · rw [if_neg hk] at h; simp at h
theorem ld8l (h8 : nf ≤ 8) : (lN nf = 8) = (nf = 8) := propext (by rw [show (8 : Int64) = lN 8 from rfl]; exact lN_eq (by omega) (by decide))
theorem qor_some {q r : Option (Nat × Nat)} {z : Nat × Nat} (h : qor q r = some z) : q = some z ∨ (q = none ∧ r = some z) := by
  cases q with
  | none => exact Or.inr ⟨rfl, h⟩
  | some y => exact Or.inl h
/-- the reference reads a new franchisee -/
theorem R_fran {B : Nat → Int32} {n e : Nat} (r : RS X ad B n e) (hv : gJ X (ad 3) = dV v u) (hk : tkK B n e ≠ 5) (h4 : np ≤ 4) (hf : nf < 8) (u1 : u 1 = lN np) (u2 : u 2 = lN nf) : (qor (qor (eNm B n (tkR B n e) u nf false) (eNum B n (tkR B n (tkR B n e)) 0 (nI np - 1))) (eNum B n (tkR B n (tkR B n (tkR B n e))) 0 999) = none ∧ ∃ X1, RD X X1 ad B n (tkR B n (tkR B n (tkR B n (tkR B n e)))) v (afV u nf (pkd (fun i => B (tkS B n (tkR B n e) + i)) (tkR B n (tkR B n e) - tkS B n (tkR B n e))) (lN (vNum B n (tkR B n (tkR B n e)) 0 (nI np - 1))) (lN (vNum B n (tkR B n (tkR B n (tkR B n e))) 0 999))) ∧ ∀ r X2, f_X12_readEnd X1 (ad 1) = some (r, X2) → r = 0 ∨ r = 1 → f_X12_readFranchisee X (ad 1) = some (r, X2)) ∨ (∃ c p, qor (qor (eNm B n (tkR B n e) u nf false) (eNum B n (tkR B n (tkR B n e)) 0 (nI np - 1))) (eNum B n (tkR B n (tkR B n (tkR B n e))) 0 999) = some (c, p) ∧ ∃ X', f_X12_readFranchisee X (ad 1) = some (0, X') ∧ RFd X X' ad v c p) := by
  have he := r.2.2.2.2.2.2.2
  have y0 := tkR_le (B := B) he
  have y1 := tkR_le (B := B) y0.2
  have y2 := tkR_le (B := B) y1.2
  have t0 := r.1.1
  have l2 : ∀ {β : Type} (Y : St) (w : Nat → Int64) (K : Int64 → Option β), TR Y ad → gJ Y (ad 3) = dV v w → ldJ Y (ad 3) 15164 K = K (w 2) := fun Y w K ty hy => ld3d ty hy (k := 2) rfl (by decide)
  have l1 : ∀ {β : Type} (Y : St) (w : Nat → Int64) (K : Int64 → Option β), TR Y ad → gJ Y (ad 3) = dV v w → ldJ Y (ad 3) 15163 K = K (w 1) := fun Y w K ty hy => ld3d ty hy (k := 1) rfl (by decide)
  obtain ⟨X1, m1, r1, x1, -⟩ := R_ad r hk
  have rd1 := RD_mk r1 x1 hv
  have t1 := r1.1.1
  have n8 : (lN nf = 8) = False := (ld8l (by omega)).trans (eq_false (by omega))
  have k13 : (gI X1 (ad 1) 13 = 1) = (tkK B n (tkR B n e) = 1) := R_13 r1 (c := 1) (by omega)
  have nm := M_named t1 rd1.2.2 (p := 3) (i1 := 3) (by decide) rfl (by rw [← u2]; exact dV_at (k := 2) (by decide)) (show nf ≤ 8 by omega) (gJ X1 (ad 1) 16)
  rw [nmV_d (by omega)] at nm
  by_cases hg : tkK B n (tkR B n e) = 1 ∧ stW B n (tkR B n e) = -1
  · have hx := r1.2.2.2.2.2.1 hg.1
    have e1 : nmV u (gJ X1 (ad 1) 16) nf 0 = nmX B n (tkR B n e) u nf := by rw [nmX, hx]
    rw [e1] at nm
    by_cases hm : nmX B n (tkR B n e) u nf = -1
    · have en : eNm B n (tkR B n e) u nf false = none := by rw [eNm, if_pos hg, decide_eq_true hm, if_neg (by decide)]
      have rd2 := RD_st (k := 58 + 16 * nf + 0) (w := gJ X1 (ad 1) 16) rd1 (by omega)
      obtain ⟨X3, m3, r3, x3, -⟩ := R_ad rd2.1 (by omega)
      have rd3 := rd2.tr (RD_mk r3 x3 rd2.2.2)
      have t3 := r3.1.1
      have i0 : (15220 : Int32) + 16 * nI nf + 0 = nI (15162 + (58 + 16 * nf + 0)) := by rw [mu16, show (15220 : Int32) = nI 15220 from rfl, show (0 : Int32) = nI 0 from rfl, nI_add, nI_add, show 15220 + 16 * nf + 0 = 15162 + (58 + 16 * nf + 0) by omega]
      have i1 : (15220 : Int32) + 16 * nI nf + 1 = nI (15162 + (58 + 16 * nf + 1)) := by rw [mu16, show (15220 : Int32) = nI 15220 from rfl, show (1 : Int32) = nI 1 from rfl, nI_add, nI_add, show 15220 + 16 * nf + 1 = 15162 + (58 + 16 * nf + 1) by omega]
      have i2 : (15220 : Int32) + 16 * nI nf + 2 = nI (15162 + (58 + 16 * nf + 2)) := by rw [mu16, show (15220 : Int32) = nI 15220 from rfl, show (2 : Int32) = nI 2 from rfl, nI_add, nI_add, show 15220 + 16 * nf + 2 = 15162 + (58 + 16 * nf + 2) by omega]
      have s0 : ∀ (K : St → Option (Int32 × St)), stJ X1 (ad 3) (15220 + 16 * nI nf + 0) (gJ X1 (ad 1) 16) K = K (uJ X1 (ad 3) (15162 + (58 + 16 * nf + 0)) (gJ X1 (ad 1) 16)) := fun K => st3d t1 i0 (by omega)
      have lb : ∀ (K : Int64 → Option (Int32 × St)), ldJ X3 (ad 3) 15163 K = K (lN np) := fun K => by rw [l1 X3 _ K t3 rd3.2.2, udt_n (by omega), u1]
      have base : f_X12_readFranchisee X (ad 1) = (cl (f_X12_readInto X3 (ad 1) (15220 + 16 * nI nf + 1) 0 (nI np - 1) 1) fun (o24 : Int32 × St) => if o24.1 = 0 then (some (0, o24.2)) else (cl (f_X12_readInto o24.2 (ad 1) (15220 + 16 * nI nf + 2) 0 999 1) fun (o25 : Int32 × St) => if o25.1 = 0 then (some (0, o25.2)) else (lt (gR o25.2 (ad 1) 0) fun (a26 : Nat) => ldJ o25.2 a26 15164 fun (v28 : Int64) => stJ o25.2 a26 15164 (v28 + 1) fun (S29 : St) => cl (f_X12_readEnd S29 (ad 1)) fun (o30 : Int32 × St) => zc o30.1 (some (o30.1, o30.2))))) := by
        simp only [f_X12_readFranchisee, lt_n, r_1_0 t0, l2 X u _ t0 hv, u2, n8, if_false, m1, cl_n, k13, jn_n, hg.1, if_true, R_stat r1, hg.2, nm, hm, r_1_0 t1, l2 X1 u _ t1 rd1.2.2, lN_i, s0, m3, r_1_0 t3, lb]
      rcases R_into r3 rd3.2.2 i1 (by omega) (a := 0) (by omega) (nI np - 1) (ia := 0) rfl (mul := 1) with ⟨z1, X4, m4, r4⟩ | ⟨cc, z1, -, X4, m4, f4⟩
      · rcases R_into r4.1 r4.2.2 i2 (by omega) (a := 0) (by omega) 999 (ia := 0) rfl (mul := 1) with ⟨z2, X5, m5, r5⟩ | ⟨cc, z2, -, X5, m5, f5⟩
        · have rd5 := (rd3.tr r4).tr r5
          have t5 := rd5.1.1.1
          have rd6 := RD_st (k := 2) (w := lN (nf + 1)) rd5 (by decide)
          have lc : ∀ (K : Int64 → Option (Int32 × St)), ldJ X5 (ad 3) 15164 K = K (lN nf) := fun K => by rw [l2 X5 _ K t5 rd5.2.2, udt_n (by omega), udt_n (by omega), udt_n (by omega), u2]
          have sc : ∀ (K : St → Option (Int32 × St)), stJ X5 (ad 3) 15164 (lN (nf + 1)) K = K (uJ X5 (ad 3) (15162 + 2) (lN (nf + 1))) := fun K => st3d t5 (k := 2) rfl (by decide)
          have vn1 := plan_lt y1.2 h4 z1
          have vn2 := (vNum_ok (B := B) (a := 0) y2.2 (show 999 < 2 ^ 31 by decide) (hi := 999) rfl (by omega)).2
          refine Or.inl ⟨by rw [en, z1, z2]; rfl, uJ X5 (ad 3) (15162 + 2) (lN (nf + 1)), ?_, fun r9 X9 m9 h9 => ?_⟩
          · rw [afV, ← hx, ← l_m1 (t := vNum B n (tkR B n (tkR B n e)) 0 (nI np - 1)) (by omega), ← l_m1 (t := vNum B n (tkR B n (tkR B n (tkR B n e))) 0 999) (by omega)]
            exact rd6
          · rw [base]
            simp only [m4, cl_n, i10, if_false, m5, lt_n, r_1_0 t5, lc, lN_1, sc, m9, zc_w h9]
        · refine Or.inr ⟨cc, tkS B n (tkR B n (tkR B n (tkR B n e))), by rw [en, z1, z2]; rfl, X5, ?_, (rd3.tr r4).fd f5⟩
          rw [base]
          simp only [m4, cl_n, i10, if_false, m5, if_true]
      · refine Or.inr ⟨cc, tkS B n (tkR B n (tkR B n e)), by rw [en, z1]; rfl, X4, ?_, rd3.fd f4⟩
        rw [base]
        simp only [m4, cl_n, if_true]
    · have en : eNm B n (tkR B n e) u nf false = some (3, tkS B n (tkR B n e)) := by rw [eNm, if_pos hg, decide_eq_false hm, if_pos rfl]
      obtain ⟨X2, g1, g2⟩ := R_fail r1 (k := 3) (i := 3) rfl
      refine Or.inr ⟨3, tkS B n (tkR B n e), by rw [en]; rfl, X2, ?_, rd1.fd g2⟩
      simp only [f_X12_readFranchisee, lt_n, r_1_0 t0, l2 X u _ t0 hv, u2, n8, if_false, m1, cl_n, k13, jn_n, hg.1, if_true, R_stat r1, hg.2, nm, hm, g1, zc_0]
  · have en : eNm B n (tkR B n e) u nf false = some (1, tkS B n (tkR B n e)) := by rw [eNm, if_neg hg]
    obtain ⟨X2, g1, g2⟩ := R_fail r1 (k := 1) (i := 1) rfl
    refine Or.inr ⟨1, tkS B n (tkR B n e), by rw [en]; rfl, X2, ?_, rd1.fd g2⟩
    by_cases h1 : tkK B n (tkR B n e) = 1
    · have h2 : ¬ stW B n (tkR B n e) = -1 := fun z => hg ⟨h1, z⟩
      simp only [f_X12_readFranchisee, lt_n, r_1_0 t0, l2 X u _ t0 hv, u2, n8, if_false, m1, cl_n, k13, jn_n, h1, if_true, R_stat r1, h2, g1, zc_0]
    · simp only [f_X12_readFranchisee, lt_n, r_1_0 t0, l2 X u _ t0 hv, u2, n8, if_false, m1, cl_n, k13, jn_n, h1, g1, zc_0]
theorem ST_1 {B : Nat → Int32} {n e : Nat} (h : LGt S ad B n e none) (c : DV S ad d u np nf no) (hk1 : tkK B n e = 1) (hs : stW B n e = 1) (hw : isW B n e 1 = true) (hf : ∀ j, j < 1 → isW B n e j = false) : ST2 S ad d v u B n e (f_X7_readStatement S (ad 12) (ad d)) (fun X => f_X12_readStatement X (ad 1)) := by
  have he := h.2.2.2.2.2.1
  have hn := h.1.2.1
  have y0 := tkR_le (B := B) he
  have y1 := tkR_le (B := B) y0.2
  have y2 := tkR_le (B := B) y1.2
  have y3 := tkR_le (B := B) y2.2
  have p1' := tkR_lt he hk1
  have hd := c.hd
  have hb := c.hb
  have hf8 := c.hf
  have stC : ∀ Z, f_X7_readFranchisee S (ad 12) (ad d) = some Z → f_X7_readStatement S (ad 12) (ad d) = (cl (f_X9_endStatement Z (ad 12)) fun S5 => some S5) := fun Z hz => by
    simp only [f_X7_readStatement, L_isF h (i := 0) (by decide) (hf 0 (by decide)), L_isT h (i := 1) (by decide) hw, cl_n, jn_n, if_true, i10, if_false, hz]
  have stM : ∀ X, RS X ad B n e → ∀ r X2, (r = 0 ∨ r = 1) → f_X12_readFranchisee X (ad 1) = some (r, X2) → f_X12_readStatement X (ad 1) = some (r, X2) := fun X r q X2 hq hz => by
    simp only [f_X12_readStatement, R_stat r, hs, cl_n, dq10, if_false, if_true, hz, zc_w hq]
  by_cases h8 : nf < 8
  · obtain ⟨w, S1, a1, b1, c1, -, -⟩ := L_name h.ls hb hf8 c.N false (p2 := 0) rfl
    rw [qor_0] at c1
    have d1 := DV_12 b1 c
    obtain ⟨S2, a2, b2, c2⟩ := L_num c1.ls (a := 0) (by omega) (nI np - 1) (i := 0) rfl
    have d2 := DV_12 b2 d1
    obtain ⟨S3, a3, b3, c3⟩ := L_num c2.ls (a := 0) (by omega) 999 (i := 0) rfl
    have d3 := DV_12 b3 d2
    have kk := (b1.tr b2).tr b3
    have g8 : nI nf < (8 : Int32) := by rw [show (8 : Int32) = nI 8 from rfl, nI_ltI (by omega) (by omega)]; exact h8
    have fl := L_failed c3
    have h3 := c1.2.2.2.1
    have h4 := c1.2.2.2.2.1
    have rr := tkR_f (B := B) y0.2
    have base : f_X7_readFranchisee S (ad 12) (ad d) = if (bI (qor (qor (eNm B n (tkR B n e) u nf false) (eNum B n (tkR B n (tkR B n e)) 0 (nI np - 1))) (eNum B n (tkR B n (tkR B n (tkR B n e))) 0 999)).isSome) = 0 then (f_X2_add S3 (ad (d + 4)) (ad 13) (nI (tkS B n (tkR B n e))) (nI (tkR B n (tkR B n e) - tkS B n (tkR B n e))) (nI (vNum B n (tkR B n (tkR B n e)) 0 (nI np - 1))) (nI (vNum B n (tkR B n (tkR B n (tkR B n e))) 0 999))) else some S3 := by
      simp only [f_X7_readFranchisee, lt_n, r_b0_3 c.t hb, c.N.1, g8, if_true, a1, cl_n, h3, h4, nI_sub rr.1, r_b0_0 d1.t hb, d1.T.1, a2, a3, fl, r_b0_3 d3.t hb, r_12_0 d3.t]
      cases f_X2_add S3 (ad (d + 4)) (ad 13) (nI (tkS B n (tkR B n e))) (nI (tkR B n (tkR B n e) - tkS B n (tkR B n e))) (nI (vNum B n (tkR B n (tkR B n e)) 0 (nI np - 1))) (nI (vNum B n (tkR B n (tkR B n (tkR B n e))) 0 999)) <;> rfl
    cases hq : qor (qor (eNm B n (tkR B n e) u nf false) (eNum B n (tkR B n (tkR B n e)) 0 (nI np - 1))) (eNum B n (tkR B n (tkR B n (tkR B n e))) 0 999) with
    | none =>
      rw [hq] at c3
      obtain ⟨q1, q2⟩ := qor_none hq
      obtain ⟨q3, q4⟩ := qor_none q1
      have kw : tkK B n (tkR B n e) = 1 := by
        unfold eNm at q3
        by_cases hg : tkK B n (tkR B n e) = 1 ∧ stW B n (tkR B n e) = -1
        · exact hg.1
        · rw [if_neg hg] at q3; simp at q3
      obtain ⟨-, e1, e2, e3⟩ := tkK_1 y0.2 kw
      have bt : ∀ i, i < tkR B n (tkR B n e) - tkS B n (tkR B n e) → gI S3 (ad 13) (tkS B n (tkR B n e) + i) = B (tkS B n (tkR B n e) + i) := fun i hi => c3.1.2.2 _ (by omega)
      have bl : ∀ i, i < tkR B n (tkR B n e) - tkS B n (tkR B n e) → isLt (gI S3 (ad 13) (tkS B n (tkR B n e) + i)) = true := fun i hi => by rw [bt i hi]; exact e3 i hi
      have vn1 := plan_lt y1.2 c.hp q4
      have vn2 := (vNum_ok (B := B) (a := 0) y2.2 (show 999 < 2 ^ 31 by decide) (hi := 999) rfl (by omega)).2
      have ad' := C_addF (p := nI (vNum B n (tkR B n (tkR B n e)) 0 (nI np - 1))) (w := nI (vNum B n (tkR B n (tkR B n (tkR B n e))) 0 999)) d3.t hb d3.N.1 h8 (show tkS B n (tkR B n e) + (tkR B n (tkR B n e) - tkS B n (tkR B n e)) ≤ 1500 by omega) e2 bl
      have k4 := afS_k (d := d) (nf := nf) (s := tkS B n (tkR B n e)) (n := tkR B n (tkR B n e) - tkS B n (tkR B n e)) (p := nI (vNum B n (tkR B n (tkR B n e)) 0 (nI np - 1))) (w := nI (vNum B n (tkR B n (tkR B n (tkR B n e))) 0 999)) d3.t
      have dd := DV_aF d3 h8 e1 e2 bl vn1 vn2
      rw [pkd_cg _ bt] at dd
      refine ST_end (e1 := tkR B n (tkR B n (tkR B n (tkR B n e)))) (q := none) (by omega) ((kk.mono (fun _ z => Or.inl z)).tr (k4.mono (Q := PD d) (fun p (z : p = d + 4 ∨ (d + 19 ≤ p ∧ p ≤ d + 26)) => Or.inr (by omega)))) (LGs_c k4 (by omega) (by omega) c3.ls) (stC _ ?_) (fun _ => dd) (fun X r hv => ?_)
      · rw [base, hq, ad']; rfl
      · rcases R_fran r hv (by omega) c.hp h8 c.u1 c.u2 with ⟨-, X1, m1, m2⟩ | ⟨cc, p, z, -⟩
        · exact Or.inl ⟨rfl, X1, m1, fun r9 X9 m9 h9 => stM X r _ _ h9 (m2 r9 X9 m9 h9)⟩
        · rw [hq] at z; simp at z
    | some cp =>
      obtain ⟨cc, p⟩ := cp
      rw [hq] at c3
      refine ST_end (e1 := tkR B n (tkR B n (tkR B n (tkR B n e)))) (q := some (cc, p)) (u' := u) (np' := np) (nf' := nf) (no' := no) (by omega) (kk.mono (fun _ z => Or.inl z)) c3.ls (stC _ ?_) (fun z => by simp at z) (fun X r hv => ?_)
      · rw [base, hq]; rfl
      · rcases R_fran r hv (by omega) c.hp h8 c.u1 c.u2 with ⟨z, -⟩ | ⟨cc', p', z, X', m1, m2⟩
        · rw [hq] at z; simp at z
        · rw [hq] at z
          exact Or.inr ⟨cc', p', z, X', stM X r _ _ (Or.inl rfl) m1, m2⟩
  · have e8 : nf = 8 := by omega
    subst e8
    obtain ⟨S1, a1, b1, c1⟩ := L_fail h (k := 4) (by omega) (i := 4) rfl
    obtain ⟨S2, a2, b2, c2⟩ := L_end c1.ls
    refine ⟨S2, ?_, (b1.tr b2).mono (fun _ z => Or.inl z), Or.inr ⟨4, tkS B n e, _, c2.ls, fun X r hv => ?_⟩⟩
    · rw [stC S1, a2, cl_n]
      have n8 : ¬ nI 8 < (8 : Int32) := by decide
      simp only [f_X7_readFranchisee, lt_n, r_b0_3 c.t hb, c.N.1, n8, if_false, a1, cl_n]
    · obtain ⟨X', g1, g2⟩ := R_fail r (k := 4) (i := 4) rfl
      refine ⟨X', stM X r _ _ (Or.inl rfl) ?_, RFl.dd g2 hv⟩
      have l2 : ∀ (K : Int64 → Option (Int32 × St)), ldJ X (ad 3) 15164 K = K (lN 8) := fun K => by rw [ld3d r.1.1 hv (i := 15164) (k := 2) rfl (by decide), c.u2]
      have n8 : lN 8 = (8 : Int64) := rfl
      simp only [f_X12_readFranchisee, lt_n, r_1_0 r.1.1, l2, n8, if_true, g1, cl_n, zc_0]
