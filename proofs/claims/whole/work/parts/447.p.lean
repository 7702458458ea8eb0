/-! the pure part: snapshots -/
variable {S S0 S1 S2 S' S'' S3 X : St} {ad : Nat → Nat} {b d j k : Nat} {v v0 v' v1 v2 u : Nat → Int64} {np nf no mo no' mo' : Nat}
theorem RE_fin0 (r : RE S ad b d j k v np nf no mo) (m : MK S S1 ad b v v' np nf no' mo') (rk : RK S1 S3 ad v') : RE S3 ad b d j k v' np nf no' mo' := by
  have hB := r.1.2.1
  have t1 := m.1.t r.1.t
  obtain ⟨hc, ax, w, ht, hb, h3, h0, ho, hm, hws⟩ := m
  obtain ⟨rc, -, rv⟩ := rk
  have hag : ∀ q, BR q → Ag S1 S3 ad (b + q) := fun q hq => rc.2.1 _ (by omega) (by unfold MPr; omega)
  have hx := AXs_c hag ax
  refine RE_mut r ((hc.trans rc).mono ?_) rv hb ht h3 h0 ho hm w (hws mo r.1.m.2.2.2.2.2.1 r.1.hm r.ws) hx.1 hx.2.1 hx.2.2.1 hx.2.2.2.1 hx.2.2.2.2
  unfold MPc MPr MP2
  rintro p ((h | ⟨q, hq, h⟩) | h)
  · omega
  · exact Or.inr (Or.inr (Or.inr (Or.inr (Or.inr ⟨q, hq, h⟩))))
  · omega
/-! copying names -/
def cpo (ad : Nat → Nat) (x y : Nat) : List (Nat × Bool × Nat) → St → St
  | [], S => S
  | (q, true, n) :: r, S => cpo ad x y r (cpyJ S (ad (x + q)) 0 (ad (y + q)) 0 n)
  | (q, false, n) :: r, S => cpo ad x y r (cpyI S (ad (x + q)) 0 (ad (y + q)) 0 n)
def hasC (L : List (Nat × Bool × Nat)) (q : Nat) (J : Bool) (l : Nat) : Bool := L.any (fun e => decide (e.1 = q) && (e.2.1 == J) && decide (l < e.2.2))
theorem SR0_cpo (x y : Nat) : ∀ (L : List (Nat × Bool × Nat)) (S : St), SR0 S (cpo ad x y L S) := by
  intro L
  induction L with
  | nil => intro S; exact SR0.rf S
  | cons e r ih =>
    intro S
    obtain ⟨q, J, n⟩ := e
    cases J
    · exact (SR0_cpyI _ _ _ _ _ _).trans (ih _)
    · exact (SR0_cpyJ _ _ _ _ _ _).trans (ih _)
/-- names of businesses that do not meet -/
def FarN (x y : Nat) : Prop := x + 40 ≤ y ∨ y + 40 ≤ x
theorem gI_cpo (hi : ∀ p q, ad p = ad q ↔ p = q) {x y : Nat} (hxy : FarN x y) : ∀ (L : List (Nat × Bool × Nat)) (S : St), (∀ e, e ∈ L → e.1 < 40) → ∀ p l, gI (cpo ad x y L S) (ad p) l = if y ≤ p ∧ hasC L (p - y) false l = true then gI S (ad (x + (p - y))) l else gI S (ad p) l := by
  intro L
  induction L with
  | nil => intro S _ p l; rw [if_neg (by simp [hasC])]; rfl
  | cons e r ih =>
    intro S hL p l
    obtain ⟨q, J, n⟩ := e
    have hq : q < 40 := hL _ (List.mem_cons_self ..)
    have hr : ∀ e, e ∈ r → e.1 < 40 := fun e he => hL e (List.mem_cons_of_mem _ he)
    unfold FarN at hxy
    cases J
    · show gI (cpo ad x y r (cpyI S (ad (x + q)) 0 (ad (y + q)) 0 n)) (ad p) l = _
      rw [ih _ hr p l, gI_cpyI, gI_cpyI]
      simp only [hi, Nat.zero_le, true_and, Nat.zero_add, Nat.sub_zero]
      have e1 : hasC ((q, false, n) :: r) (p - y) false l = (decide (q = p - y) && decide (l < n) || hasC r (p - y) false l) := by simp [hasC]
      rw [e1]
      have e2 : ¬ (x + (p - y) = y + q ∧ l < n) ∨ ¬ (y ≤ p ∧ p - y < 40) := by omega
      by_cases h1 : y ≤ p
      · cases h2 : hasC r (p - y) false l
        · by_cases h3 : q = p - y ∧ l < n
          · rw [if_neg (by simp), if_pos ⟨by omega, h3.2⟩, if_pos ⟨h1, by simp [h3]⟩, h3.1]
          · rw [if_neg (by simp), if_neg (by omega), if_neg]
            rintro ⟨-, h4⟩
            simp only [Bool.or_false, Bool.and_eq_true, decide_eq_true_eq] at h4
            exact h3 h4
        · have hp40 : p - y < 40 := by
            simp only [hasC, List.any_eq_true, Bool.and_eq_true, decide_eq_true_eq] at h2
            obtain ⟨e, he, ⟨h5, -⟩, -⟩ := h2
            have := hr e he
            omega
          rw [if_pos ⟨h1, rfl⟩, if_neg (by omega), if_pos ⟨h1, by simp⟩]
      · rw [if_neg (by omega), if_neg (by omega), if_neg (by omega)]
    · show gI (cpo ad x y r (cpyJ S (ad (x + q)) 0 (ad (y + q)) 0 n)) (ad p) l = _
      rw [ih _ hr p l, gI_cpyJ, gI_cpyJ]
      have e1 : hasC ((q, true, n) :: r) (p - y) false l = hasC r (p - y) false l := by simp [hasC]
      rw [e1]
theorem gJ_cpo (hi : ∀ p q, ad p = ad q ↔ p = q) {x y : Nat} (hxy : FarN x y) : ∀ (L : List (Nat × Bool × Nat)) (S : St), (∀ e, e ∈ L → e.1 < 40) → ∀ p l, gJ (cpo ad x y L S) (ad p) l = if y ≤ p ∧ hasC L (p - y) true l = true then gJ S (ad (x + (p - y))) l else gJ S (ad p) l := by
  intro L
  induction L with
  | nil => intro S _ p l; rw [if_neg (by simp [hasC])]; rfl
  | cons e r ih =>
    intro S hL p l
    obtain ⟨q, J, n⟩ := e
    have hq : q < 40 := hL _ (List.mem_cons_self ..)
    have hr : ∀ e, e ∈ r → e.1 < 40 := fun e he => hL e (List.mem_cons_of_mem _ he)
    unfold FarN at hxy
    cases J
    · show gJ (cpo ad x y r (cpyI S (ad (x + q)) 0 (ad (y + q)) 0 n)) (ad p) l = _
      rw [ih _ hr p l, gJ_cpyI, gJ_cpyI]
      have e1 : hasC ((q, false, n) :: r) (p - y) true l = hasC r (p - y) true l := by simp [hasC]
      rw [e1]
    · show gJ (cpo ad x y r (cpyJ S (ad (x + q)) 0 (ad (y + q)) 0 n)) (ad p) l = _
      rw [ih _ hr p l, gJ_cpyJ, gJ_cpyJ]
      simp only [hi, Nat.zero_le, true_and, Nat.zero_add, Nat.sub_zero]
      have e1 : hasC ((q, true, n) :: r) (p - y) true l = (decide (q = p - y) && decide (l < n) || hasC r (p - y) true l) := by simp [hasC]
      rw [e1]
      by_cases h1 : y ≤ p
      · cases h2 : hasC r (p - y) true l
        · by_cases h3 : q = p - y ∧ l < n
          · rw [if_neg (by simp), if_pos ⟨by omega, h3.2⟩, if_pos ⟨h1, by simp [h3]⟩, h3.1]
          · rw [if_neg (by simp), if_neg (by omega), if_neg]
            rintro ⟨-, h4⟩
            simp only [Bool.or_false, Bool.and_eq_true, decide_eq_true_eq] at h4
            exact h3 h4
        · have hp40 : p - y < 40 := by
            simp only [hasC, List.any_eq_true, Bool.and_eq_true, decide_eq_true_eq] at h2
            obtain ⟨e, he, ⟨h5, -⟩, -⟩ := h2
            have := hr e he
            omega
          rw [if_pos ⟨h1, rfl⟩, if_neg (by omega), if_pos ⟨h1, by simp⟩]
      · rw [if_neg (by omega), if_neg (by omega), if_neg (by omega)]
def L1c : List (Nat × Bool × Nat) := [(12, false, 900), (15, false, 16), (16, false, 16), (17, false, 16), (18, true, 16)]
def L2c (mo : Nat) : List (Nat × Bool × Nat) := [(21, false, 8), (22, false, 8), (23, false, 8), (24, false, 8), (25, false, 8), (26, true, 8), (27, false, 8), (28, false, 8), (29, false, 8), (30, true, 8), (31, false, 8), (32, false, 8), (33, true, 8 * mo), (34, true, 56 * mo), (35, true, 64), (36, true, 8), (37, true, 8), (38, true, 3)]
/-- a business copied onto another -/
def cpBz (ad : Nat → Nat) (x y mo : Nat) (S : St) : St := uI (cpo ad x y (L2c mo) (uI (cpo ad x y L1c S) (ad (y + 3)) 4 (gI S (ad (x + 3)) 4))) (ad (y + 6)) 6 (gI S (ad (x + 6)) 6)
theorem cpI_at {β : Type} {S : St} {a sp c dp n : Nat} {i1 i2 i3 : Int32} {k : St → Option β} (e1 : i1 = nI sp) (e2 : i2 = nI dp) (e3 : i3 = nI n) (h1 : sp + n ≤ gN S a) (h2 : dp + n ≤ gN S c) (h3 : gN S a < 2 ^ 31) (h4 : gN S c < 2 ^ 31) : cpI S a i1 c i2 i3 k = k (cpyI S a sp c dp n) := by
  subst e1 e2 e3
  unfold cpI
  rw [nI_clamp (by omega), nI_clamp (by omega), nI_clamp (by omega), if_neg]
  rintro (h | h | h | h | h)
  · exact nI_pos (by omega) h
  · exact nI_pos (by omega) h
  · exact nI_pos (by omega) h
  · omega
  · omega
theorem cpG (t : TR S ad) {x y : Nat} (hx : BB x) (hy : BB y) (hxy : FarN x y) : f_X3_copyFrom S (ad (y + 2)) (ad (x + 2)) = some (cpyI S (ad (x + 12)) 0 (ad (y + 12)) 0 (900)) := by
  unfold FarN at hxy
  have t0 := t
  have t1 : TR (cpyI S (ad (x + 12)) 0 (ad (y + 12)) 0 (900)) ad := TR_SR0 (SR0_cpyI _ _ _ _ _ _) t0
  unfold f_X3_copyFrom
  rw [lt_n, r_b2_0 t0 hx, lt_n, r_b2_0 t0 hy, cpI_at (i1 := 0) (i2 := 0) (i3 := 900) (sp := 0) (dp := 0) (n := 900) rfl rfl (rfl) (by rw [n_b12 t0 hx]; omega) (by rw [n_b12 t0 hy]; omega) (by rw [n_b12 t0 hx]; decide) (by rw [n_b12 t0 hy]; decide)]
theorem cpOu (t : TR S ad) {x y : Nat} (hx : BB x) (hy : BB y) (hxy : FarN x y) : f_X6_copyFrom S (ad (y + 3)) (ad (x + 3)) = some (uI (cpyJ (cpyI (cpyI (cpyI S (ad (x + 15)) 0 (ad (y + 15)) 0 (16)) (ad (x + 16)) 0 (ad (y + 16)) 0 (16)) (ad (x + 17)) 0 (ad (y + 17)) 0 (16)) (ad (x + 18)) 0 (ad (y + 18)) 0 (16)) (ad (y + 3)) 4 (gI S (ad (x + 3)) 4)) := by
  unfold FarN at hxy
  have t0 := t
  have t1 : TR (cpyI S (ad (x + 15)) 0 (ad (y + 15)) 0 (16)) ad := TR_SR0 (SR0_cpyI _ _ _ _ _ _) t0
  have t2 : TR (cpyI (cpyI S (ad (x + 15)) 0 (ad (y + 15)) 0 (16)) (ad (x + 16)) 0 (ad (y + 16)) 0 (16)) ad := TR_SR0 (SR0_cpyI _ _ _ _ _ _) t1
  have t3 : TR (cpyI (cpyI (cpyI S (ad (x + 15)) 0 (ad (y + 15)) 0 (16)) (ad (x + 16)) 0 (ad (y + 16)) 0 (16)) (ad (x + 17)) 0 (ad (y + 17)) 0 (16)) ad := TR_SR0 (SR0_cpyI _ _ _ _ _ _) t2
  have t4 : TR (cpyJ (cpyI (cpyI (cpyI S (ad (x + 15)) 0 (ad (y + 15)) 0 (16)) (ad (x + 16)) 0 (ad (y + 16)) 0 (16)) (ad (x + 17)) 0 (ad (y + 17)) 0 (16)) (ad (x + 18)) 0 (ad (y + 18)) 0 (16)) ad := TR_SR0 (SR0_cpyJ _ _ _ _ _ _) t3
  unfold f_X6_copyFrom
  rw [lt_n, r_b3_0 t0 hx, lt_n, r_b3_0 t0 hy, cpI_at (i1 := 0) (i2 := 0) (i3 := 16) (sp := 0) (dp := 0) (n := 16) rfl rfl (rfl) (by rw [n_b15 t0 hx]; omega) (by rw [n_b15 t0 hy]; omega) (by rw [n_b15 t0 hx]; decide) (by rw [n_b15 t0 hy]; decide)]
  rw [lt_n, r_b3_1 t1 hx, lt_n, r_b3_1 t1 hy, cpI_at (i1 := 0) (i2 := 0) (i3 := 16) (sp := 0) (dp := 0) (n := 16) rfl rfl (rfl) (by rw [n_b16 t1 hx]; omega) (by rw [n_b16 t1 hy]; omega) (by rw [n_b16 t1 hx]; decide) (by rw [n_b16 t1 hy]; decide)]
  rw [lt_n, r_b3_2 t2 hx, lt_n, r_b3_2 t2 hy, cpI_at (i1 := 0) (i2 := 0) (i3 := 16) (sp := 0) (dp := 0) (n := 16) rfl rfl (rfl) (by rw [n_b17 t2 hx]; omega) (by rw [n_b17 t2 hy]; omega) (by rw [n_b17 t2 hx]; decide) (by rw [n_b17 t2 hy]; decide)]
  rw [lt_n, r_b3_3 t3 hx, lt_n, r_b3_3 t3 hy, cpJ_at (i1 := 0) (i2 := 0) (i3 := 16) (sp := 0) (dp := 0) (n := 16) rfl rfl (rfl) (by rw [n_b18 t3 hx]; omega) (by rw [n_b18 t3 hy]; omega) (by rw [n_b18 t3 hx]; decide) (by rw [n_b18 t3 hy]; decide)]
  rw [lt_n, lt_n, gI_cpyJ, gI_cpyI, if_neg (fun e => absurd ((t.1 _ _).mp e.1) (by omega)), gI_cpyI, if_neg (fun e => absurd ((t.1 _ _).mp e.1) (by omega)), gI_cpyI, if_neg (fun e => absurd ((t.1 _ _).mp e.1) (by omega))]
theorem cpFr (t : TR S ad) {x y : Nat} (hx : BB x) (hy : BB y) (hxy : FarN x y) : f_X2_copyFrom S (ad (y + 4)) (ad (x + 4)) = some (cpyJ (cpyI (cpyI (cpyI (cpyI (cpyI S (ad (x + 21)) 0 (ad (y + 21)) 0 (8)) (ad (x + 22)) 0 (ad (y + 22)) 0 (8)) (ad (x + 23)) 0 (ad (y + 23)) 0 (8)) (ad (x + 24)) 0 (ad (y + 24)) 0 (8)) (ad (x + 25)) 0 (ad (y + 25)) 0 (8)) (ad (x + 26)) 0 (ad (y + 26)) 0 (8)) := by
  unfold FarN at hxy
  have t0 := t
  have t1 : TR (cpyI S (ad (x + 21)) 0 (ad (y + 21)) 0 (8)) ad := TR_SR0 (SR0_cpyI _ _ _ _ _ _) t0
  have t2 : TR (cpyI (cpyI S (ad (x + 21)) 0 (ad (y + 21)) 0 (8)) (ad (x + 22)) 0 (ad (y + 22)) 0 (8)) ad := TR_SR0 (SR0_cpyI _ _ _ _ _ _) t1
  have t3 : TR (cpyI (cpyI (cpyI S (ad (x + 21)) 0 (ad (y + 21)) 0 (8)) (ad (x + 22)) 0 (ad (y + 22)) 0 (8)) (ad (x + 23)) 0 (ad (y + 23)) 0 (8)) ad := TR_SR0 (SR0_cpyI _ _ _ _ _ _) t2
  have t4 : TR (cpyI (cpyI (cpyI (cpyI S (ad (x + 21)) 0 (ad (y + 21)) 0 (8)) (ad (x + 22)) 0 (ad (y + 22)) 0 (8)) (ad (x + 23)) 0 (ad (y + 23)) 0 (8)) (ad (x + 24)) 0 (ad (y + 24)) 0 (8)) ad := TR_SR0 (SR0_cpyI _ _ _ _ _ _) t3
  have t5 : TR (cpyI (cpyI (cpyI (cpyI (cpyI S (ad (x + 21)) 0 (ad (y + 21)) 0 (8)) (ad (x + 22)) 0 (ad (y + 22)) 0 (8)) (ad (x + 23)) 0 (ad (y + 23)) 0 (8)) (ad (x + 24)) 0 (ad (y + 24)) 0 (8)) (ad (x + 25)) 0 (ad (y + 25)) 0 (8)) ad := TR_SR0 (SR0_cpyI _ _ _ _ _ _) t4
  have t6 : TR (cpyJ (cpyI (cpyI (cpyI (cpyI (cpyI S (ad (x + 21)) 0 (ad (y + 21)) 0 (8)) (ad (x + 22)) 0 (ad (y + 22)) 0 (8)) (ad (x + 23)) 0 (ad (y + 23)) 0 (8)) (ad (x + 24)) 0 (ad (y + 24)) 0 (8)) (ad (x + 25)) 0 (ad (y + 25)) 0 (8)) (ad (x + 26)) 0 (ad (y + 26)) 0 (8)) ad := TR_SR0 (SR0_cpyJ _ _ _ _ _ _) t5
  unfold f_X2_copyFrom
  rw [lt_n, r_b4_2 t0 hx, lt_n, r_b4_2 t0 hy, cpI_at (i1 := 0) (i2 := 0) (i3 := 8) (sp := 0) (dp := 0) (n := 8) rfl rfl (rfl) (by rw [n_b21 t0 hx]; omega) (by rw [n_b21 t0 hy]; omega) (by rw [n_b21 t0 hx]; decide) (by rw [n_b21 t0 hy]; decide)]
  rw [lt_n, r_b4_3 t1 hx, lt_n, r_b4_3 t1 hy, cpI_at (i1 := 0) (i2 := 0) (i3 := 8) (sp := 0) (dp := 0) (n := 8) rfl rfl (rfl) (by rw [n_b22 t1 hx]; omega) (by rw [n_b22 t1 hy]; omega) (by rw [n_b22 t1 hx]; decide) (by rw [n_b22 t1 hy]; decide)]
  rw [lt_n, r_b4_4 t2 hx, lt_n, r_b4_4 t2 hy, cpI_at (i1 := 0) (i2 := 0) (i3 := 8) (sp := 0) (dp := 0) (n := 8) rfl rfl (rfl) (by rw [n_b23 t2 hx]; omega) (by rw [n_b23 t2 hy]; omega) (by rw [n_b23 t2 hx]; decide) (by rw [n_b23 t2 hy]; decide)]
  rw [lt_n, r_b4_5 t3 hx, lt_n, r_b4_5 t3 hy, cpI_at (i1 := 0) (i2 := 0) (i3 := 8) (sp := 0) (dp := 0) (n := 8) rfl rfl (rfl) (by rw [n_b24 t3 hx]; omega) (by rw [n_b24 t3 hy]; omega) (by rw [n_b24 t3 hx]; decide) (by rw [n_b24 t3 hy]; decide)]
  rw [lt_n, r_b4_6 t4 hx, lt_n, r_b4_6 t4 hy, cpI_at (i1 := 0) (i2 := 0) (i3 := 8) (sp := 0) (dp := 0) (n := 8) rfl rfl (rfl) (by rw [n_b25 t4 hx]; omega) (by rw [n_b25 t4 hy]; omega) (by rw [n_b25 t4 hx]; decide) (by rw [n_b25 t4 hy]; decide)]
  rw [lt_n, r_b4_7 t5 hx, lt_n, r_b4_7 t5 hy, cpJ_at (i1 := 0) (i2 := 0) (i3 := 8) (sp := 0) (dp := 0) (n := 8) rfl rfl (rfl) (by rw [n_b26 t5 hx]; omega) (by rw [n_b26 t5 hy]; omega) (by rw [n_b26 t5 hx]; decide) (by rw [n_b26 t5 hy]; decide)]
theorem cpTr (t : TR S ad) {x y : Nat} (hx : BB x) (hy : BB y) (hxy : FarN x y) : f_X10_copyFrom S (ad (y + 5)) (ad (x + 5)) = some (cpyI (cpyI (cpyJ (cpyI (cpyI (cpyI S (ad (x + 27)) 0 (ad (y + 27)) 0 (8)) (ad (x + 28)) 0 (ad (y + 28)) 0 (8)) (ad (x + 29)) 0 (ad (y + 29)) 0 (8)) (ad (x + 30)) 0 (ad (y + 30)) 0 (8)) (ad (x + 31)) 0 (ad (y + 31)) 0 (8)) (ad (x + 32)) 0 (ad (y + 32)) 0 (8)) := by
  unfold FarN at hxy
  have t0 := t
  have t1 : TR (cpyI S (ad (x + 27)) 0 (ad (y + 27)) 0 (8)) ad := TR_SR0 (SR0_cpyI _ _ _ _ _ _) t0
  have t2 : TR (cpyI (cpyI S (ad (x + 27)) 0 (ad (y + 27)) 0 (8)) (ad (x + 28)) 0 (ad (y + 28)) 0 (8)) ad := TR_SR0 (SR0_cpyI _ _ _ _ _ _) t1
  have t3 : TR (cpyI (cpyI (cpyI S (ad (x + 27)) 0 (ad (y + 27)) 0 (8)) (ad (x + 28)) 0 (ad (y + 28)) 0 (8)) (ad (x + 29)) 0 (ad (y + 29)) 0 (8)) ad := TR_SR0 (SR0_cpyI _ _ _ _ _ _) t2
  have t4 : TR (cpyJ (cpyI (cpyI (cpyI S (ad (x + 27)) 0 (ad (y + 27)) 0 (8)) (ad (x + 28)) 0 (ad (y + 28)) 0 (8)) (ad (x + 29)) 0 (ad (y + 29)) 0 (8)) (ad (x + 30)) 0 (ad (y + 30)) 0 (8)) ad := TR_SR0 (SR0_cpyJ _ _ _ _ _ _) t3
  have t5 : TR (cpyI (cpyJ (cpyI (cpyI (cpyI S (ad (x + 27)) 0 (ad (y + 27)) 0 (8)) (ad (x + 28)) 0 (ad (y + 28)) 0 (8)) (ad (x + 29)) 0 (ad (y + 29)) 0 (8)) (ad (x + 30)) 0 (ad (y + 30)) 0 (8)) (ad (x + 31)) 0 (ad (y + 31)) 0 (8)) ad := TR_SR0 (SR0_cpyI _ _ _ _ _ _) t4
  have t6 : TR (cpyI (cpyI (cpyJ (cpyI (cpyI (cpyI S (ad (x + 27)) 0 (ad (y + 27)) 0 (8)) (ad (x + 28)) 0 (ad (y + 28)) 0 (8)) (ad (x + 29)) 0 (ad (y + 29)) 0 (8)) (ad (x + 30)) 0 (ad (y + 30)) 0 (8)) (ad (x + 31)) 0 (ad (y + 31)) 0 (8)) (ad (x + 32)) 0 (ad (y + 32)) 0 (8)) ad := TR_SR0 (SR0_cpyI _ _ _ _ _ _) t5
  unfold f_X10_copyFrom
  rw [lt_n, r_b5_0 t0 hx, lt_n, r_b5_0 t0 hy, cpI_at (i1 := 0) (i2 := 0) (i3 := 8) (sp := 0) (dp := 0) (n := 8) rfl rfl (rfl) (by rw [n_b27 t0 hx]; omega) (by rw [n_b27 t0 hy]; omega) (by rw [n_b27 t0 hx]; decide) (by rw [n_b27 t0 hy]; decide)]
  rw [lt_n, r_b5_1 t1 hx, lt_n, r_b5_1 t1 hy, cpI_at (i1 := 0) (i2 := 0) (i3 := 8) (sp := 0) (dp := 0) (n := 8) rfl rfl (rfl) (by rw [n_b28 t1 hx]; omega) (by rw [n_b28 t1 hy]; omega) (by rw [n_b28 t1 hx]; decide) (by rw [n_b28 t1 hy]; decide)]
  rw [lt_n, r_b5_2 t2 hx, lt_n, r_b5_2 t2 hy, cpI_at (i1 := 0) (i2 := 0) (i3 := 8) (sp := 0) (dp := 0) (n := 8) rfl rfl (rfl) (by rw [n_b29 t2 hx]; omega) (by rw [n_b29 t2 hy]; omega) (by rw [n_b29 t2 hx]; decide) (by rw [n_b29 t2 hy]; decide)]
  rw [lt_n, r_b5_3 t3 hx, lt_n, r_b5_3 t3 hy, cpJ_at (i1 := 0) (i2 := 0) (i3 := 8) (sp := 0) (dp := 0) (n := 8) rfl rfl (rfl) (by rw [n_b30 t3 hx]; omega) (by rw [n_b30 t3 hy]; omega) (by rw [n_b30 t3 hx]; decide) (by rw [n_b30 t3 hy]; decide)]
  rw [lt_n, r_b5_4 t4 hx, lt_n, r_b5_4 t4 hy, cpI_at (i1 := 0) (i2 := 0) (i3 := 8) (sp := 0) (dp := 0) (n := 8) rfl rfl (rfl) (by rw [n_b31 t4 hx]; omega) (by rw [n_b31 t4 hy]; omega) (by rw [n_b31 t4 hx]; decide) (by rw [n_b31 t4 hy]; decide)]
  rw [lt_n, r_b5_5 t5 hx, lt_n, r_b5_5 t5 hy, cpI_at (i1 := 0) (i2 := 0) (i3 := 8) (sp := 0) (dp := 0) (n := 8) rfl rfl (rfl) (by rw [n_b32 t5 hx]; omega) (by rw [n_b32 t5 hy]; omega) (by rw [n_b32 t5 hx]; decide) (by rw [n_b32 t5 hy]; decide)]
theorem cpBo (t : TR S ad) {x y : Nat} (hx : BB x) (hy : BB y) (hxy : FarN x y) {mo : Nat} (hm : mo ≤ 60) (e6 : gI S (ad (x + 6)) 6 = nI mo) : f_X0_copyFrom S (ad (y + 6)) (ad (x + 6)) = some (uI (cpyJ (cpyJ (cpyJ (cpyJ (cpyJ (cpyJ S (ad (x + 33)) 0 (ad (y + 33)) 0 (8 * mo)) (ad (x + 34)) 0 (ad (y + 34)) 0 (56 * mo)) (ad (x + 35)) 0 (ad (y + 35)) 0 (64)) (ad (x + 36)) 0 (ad (y + 36)) 0 (8)) (ad (x + 37)) 0 (ad (y + 37)) 0 (8)) (ad (x + 38)) 0 (ad (y + 38)) 0 (3)) (ad (y + 6)) 6 (gI S (ad (x + 6)) 6)) := by
  unfold FarN at hxy
  have t0 := t
  have t1 : TR (cpyJ S (ad (x + 33)) 0 (ad (y + 33)) 0 (8 * mo)) ad := TR_SR0 (SR0_cpyJ _ _ _ _ _ _) t0
  have t2 : TR (cpyJ (cpyJ S (ad (x + 33)) 0 (ad (y + 33)) 0 (8 * mo)) (ad (x + 34)) 0 (ad (y + 34)) 0 (56 * mo)) ad := TR_SR0 (SR0_cpyJ _ _ _ _ _ _) t1
  have t3 : TR (cpyJ (cpyJ (cpyJ S (ad (x + 33)) 0 (ad (y + 33)) 0 (8 * mo)) (ad (x + 34)) 0 (ad (y + 34)) 0 (56 * mo)) (ad (x + 35)) 0 (ad (y + 35)) 0 (64)) ad := TR_SR0 (SR0_cpyJ _ _ _ _ _ _) t2
  have t4 : TR (cpyJ (cpyJ (cpyJ (cpyJ S (ad (x + 33)) 0 (ad (y + 33)) 0 (8 * mo)) (ad (x + 34)) 0 (ad (y + 34)) 0 (56 * mo)) (ad (x + 35)) 0 (ad (y + 35)) 0 (64)) (ad (x + 36)) 0 (ad (y + 36)) 0 (8)) ad := TR_SR0 (SR0_cpyJ _ _ _ _ _ _) t3
  have t5 : TR (cpyJ (cpyJ (cpyJ (cpyJ (cpyJ S (ad (x + 33)) 0 (ad (y + 33)) 0 (8 * mo)) (ad (x + 34)) 0 (ad (y + 34)) 0 (56 * mo)) (ad (x + 35)) 0 (ad (y + 35)) 0 (64)) (ad (x + 36)) 0 (ad (y + 36)) 0 (8)) (ad (x + 37)) 0 (ad (y + 37)) 0 (8)) ad := TR_SR0 (SR0_cpyJ _ _ _ _ _ _) t4
  have t6 : TR (cpyJ (cpyJ (cpyJ (cpyJ (cpyJ (cpyJ S (ad (x + 33)) 0 (ad (y + 33)) 0 (8 * mo)) (ad (x + 34)) 0 (ad (y + 34)) 0 (56 * mo)) (ad (x + 35)) 0 (ad (y + 35)) 0 (64)) (ad (x + 36)) 0 (ad (y + 36)) 0 (8)) (ad (x + 37)) 0 (ad (y + 37)) 0 (8)) (ad (x + 38)) 0 (ad (y + 38)) 0 (3)) ad := TR_SR0 (SR0_cpyJ _ _ _ _ _ _) t5
  unfold f_X0_copyFrom
  have m60 : (if (60 : Int32) < nI mo then 60 else nI mo) = nI mo := by
    rw [if_neg]; rw [show (60 : Int32) = nI 60 from rfl, nI_ltI (by decide) (by omega)]; omega
  have m0 : (if (0 : Int32) < nI mo then nI mo else 0) = nI mo := by
    by_cases h : 0 < mo
    · rw [if_pos]; rw [← nI_0, nI_ltI (by decide) (by omega)]; exact h
    · have : mo = 0 := by omega
      subst this; rfl
  rw [lt_n, e6, lt_n, m60, lt_n, m0, lt_n, um8]
  rw [lt_n, r_b6_0 t0 hx, lt_n, r_b6_0 t0 hy, cpJ_at (i1 := 0) (i2 := 0) (i3 := nI (mo * 8)) (sp := 0) (dp := 0) (n := 8 * mo) rfl rfl (by rw [Nat.mul_comm]) (by rw [n_b33 t0 hx]; omega) (by rw [n_b33 t0 hy]; omega) (by rw [n_b33 t0 hx]; decide) (by rw [n_b33 t0 hy]; decide)]
  rw [lt_n, r_b6_1 t1 hx, lt_n, r_b6_1 t1 hy, cpJ_at (i1 := 0) (i2 := 0) (i3 := nI (mo * 8) * 7) (sp := 0) (dp := 0) (n := 56 * mo) rfl rfl (by rw [um7]; congr 1; omega) (by rw [n_b34 t1 hx]; omega) (by rw [n_b34 t1 hy]; omega) (by rw [n_b34 t1 hx]; decide) (by rw [n_b34 t1 hy]; decide)]
  rw [lt_n, r_b6_2 t2 hx, lt_n, r_b6_2 t2 hy, cpJ_at (i1 := 0) (i2 := 0) (i3 := 64) (sp := 0) (dp := 0) (n := 64) rfl rfl (rfl) (by rw [n_b35 t2 hx]; omega) (by rw [n_b35 t2 hy]; omega) (by rw [n_b35 t2 hx]; decide) (by rw [n_b35 t2 hy]; decide)]
  rw [lt_n, r_b6_3 t3 hx, lt_n, r_b6_3 t3 hy, cpJ_at (i1 := 0) (i2 := 0) (i3 := 8) (sp := 0) (dp := 0) (n := 8) rfl rfl (rfl) (by rw [n_b36 t3 hx]; omega) (by rw [n_b36 t3 hy]; omega) (by rw [n_b36 t3 hx]; decide) (by rw [n_b36 t3 hy]; decide)]
  rw [lt_n, r_b6_4 t4 hx, lt_n, r_b6_4 t4 hy, cpJ_at (i1 := 0) (i2 := 0) (i3 := 8) (sp := 0) (dp := 0) (n := 8) rfl rfl (rfl) (by rw [n_b37 t4 hx]; omega) (by rw [n_b37 t4 hy]; omega) (by rw [n_b37 t4 hx]; decide) (by rw [n_b37 t4 hy]; decide)]
  rw [lt_n, r_b6_5 t5 hx, lt_n, r_b6_5 t5 hy, cpJ_at (i1 := 0) (i2 := 0) (i3 := 3) (sp := 0) (dp := 0) (n := 3) rfl rfl (rfl) (by rw [n_b38 t5 hx]; omega) (by rw [n_b38 t5 hy]; omega) (by rw [n_b38 t5 hx]; decide) (by rw [n_b38 t5 hy]; decide)]
  rw [lt_n, lt_n, gI_cpyJ, gI_cpyJ, gI_cpyJ, gI_cpyJ, gI_cpyJ, gI_cpyJ, e6]
theorem C_copy (t : TR S ad) {x y : Nat} (hx : BB x) (hy : BB y) (hxy : FarN x y) {mo : Nat} (hm : mo ≤ 60) (e6 : gI S (ad (x + 6)) 6 = nI mo) : f_X1_copyFrom S (ad y) (ad x) = some (cpBz ad x y mo S) := by
  have hxy' := hxy
  unfold FarN at hxy'
  have e1 := cpG t hx hy hxy
  have t1 : TR (cpyI S (ad (x + 12)) 0 (ad (y + 12)) 0 (900)) ad := TR_SR0 (SR0_cpyI _ _ _ _ _ _) t
  have e2 := cpOu t1 hx hy hxy
  have e3' : gI (cpyI S (ad (x + 12)) 0 (ad (y + 12)) 0 (900)) (ad (x + 3)) 4 = gI S (ad (x + 3)) 4 := by rw [gI_cpyI, if_neg (fun e => absurd ((t.1 _ _).mp e.1) (by omega))]
  rw [e3'] at e2
  have s2 : uI (cpyJ (cpyI (cpyI (cpyI (cpyI S (ad (x + 12)) 0 (ad (y + 12)) 0 (900)) (ad (x + 15)) 0 (ad (y + 15)) 0 (16)) (ad (x + 16)) 0 (ad (y + 16)) 0 (16)) (ad (x + 17)) 0 (ad (y + 17)) 0 (16)) (ad (x + 18)) 0 (ad (y + 18)) 0 (16)) (ad (y + 3)) 4 (gI S (ad (x + 3)) 4) = uI (cpo ad x y L1c S) (ad (y + 3)) 4 (gI S (ad (x + 3)) 4) := rfl
  rw [s2] at e2
  have t2 : TR (uI (cpo ad x y L1c S) (ad (y + 3)) 4 (gI S (ad (x + 3)) 4)) ad := TR_SR0 ((SR0_cpo x y L1c S).trans (SR0_uI _ _ _ _)) t
  have r6 : gI (uI (cpo ad x y L1c S) (ad (y + 3)) 4 (gI S (ad (x + 3)) 4)) (ad (x + 6)) 6 = nI mo := by
    rw [gI_i t.1, if_neg (by omega), gI_cpo t.1 hxy L1c S (by decide), if_neg, e6]
    rintro ⟨h1, h2⟩
    simp [hasC, L1c] at h2
    omega
  generalize hU : uI (cpo ad x y L1c S) (ad (y + 3)) 4 (gI S (ad (x + 3)) 4) = U at e2 t2 r6
  have e3 := cpFr t2 hx hy hxy
  generalize hV : cpyJ (cpyI (cpyI (cpyI (cpyI (cpyI U (ad (x + 21)) 0 (ad (y + 21)) 0 (8)) (ad (x + 22)) 0 (ad (y + 22)) 0 (8)) (ad (x + 23)) 0 (ad (y + 23)) 0 (8)) (ad (x + 24)) 0 (ad (y + 24)) 0 (8)) (ad (x + 25)) 0 (ad (y + 25)) 0 (8)) (ad (x + 26)) 0 (ad (y + 26)) 0 (8) = V at e3
  have sV : SR0 U V := by rw [← hV]; exact ⟨fun _ _ => rfl, fun _ => rfl⟩
  have t3 : TR V ad := TR_SR0 sV t2
  have e4 := cpTr t3 hx hy hxy
  generalize hW : cpyI (cpyI (cpyJ (cpyI (cpyI (cpyI V (ad (x + 27)) 0 (ad (y + 27)) 0 (8)) (ad (x + 28)) 0 (ad (y + 28)) 0 (8)) (ad (x + 29)) 0 (ad (y + 29)) 0 (8)) (ad (x + 30)) 0 (ad (y + 30)) 0 (8)) (ad (x + 31)) 0 (ad (y + 31)) 0 (8)) (ad (x + 32)) 0 (ad (y + 32)) 0 (8) = W at e4
  have sW : SR0 V W := by rw [← hW]; exact ⟨fun _ _ => rfl, fun _ => rfl⟩
  have t4 : TR W ad := TR_SR0 sW t3
  have r6' : gI W (ad (x + 6)) 6 = nI mo := by
    rw [← r6, ← hW, ← hV]
    rw [gI_cpyI, if_neg (fun e => absurd ((t.1 _ _).mp e.1) (by omega)), gI_cpyI, if_neg (fun e => absurd ((t.1 _ _).mp e.1) (by omega)), gI_cpyJ, gI_cpyI, if_neg (fun e => absurd ((t.1 _ _).mp e.1) (by omega)), gI_cpyI, if_neg (fun e => absurd ((t.1 _ _).mp e.1) (by omega)), gI_cpyI, if_neg (fun e => absurd ((t.1 _ _).mp e.1) (by omega)), gI_cpyJ, gI_cpyI, if_neg (fun e => absurd ((t.1 _ _).mp e.1) (by omega)), gI_cpyI, if_neg (fun e => absurd ((t.1 _ _).mp e.1) (by omega)), gI_cpyI, if_neg (fun e => absurd ((t.1 _ _).mp e.1) (by omega)), gI_cpyI, if_neg (fun e => absurd ((t.1 _ _).mp e.1) (by omega)), gI_cpyI, if_neg (fun e => absurd ((t.1 _ _).mp e.1) (by omega))]
  have e5 := cpBo t4 hx hy hxy hm r6'
  simp only [f_X1_copyFrom, lt_n, r_b0_1 t hx, r_b0_1 t hy, e1, cl_n, r_b0_2 t1 hx, r_b0_2 t1 hy, e2, hU, r_b0_3 t2 hx, r_b0_3 t2 hy, e3, r_b0_4 t3 hx, r_b0_4 t3 hy, e4, r_b0_5 t4 hx, r_b0_5 t4 hy, e5]
  rw [r6', ← e6, ← hW, ← hV, ← hU]
  rfl
