/-! the pure part: texts that are written -/
variable {S S0 S1 S2 S' S'' S3 X : St} {ad : Nat → Nat} {b d j k : Nat} {v v0 v' v1 v2 u w : Nat → Int64} {np nf no mo no' mo' x y : Nat}
theorem str_len (S : St) {i : Nat} (hi : i < 26) : f_J0_length_8abf5 S i = some (nI (lenS.getD i 0)) := by
  have h : ∀ i, i < 26 → f_J0_length_8abf5 (fun _ _ => 0, fun _ _ => 0, fun _ _ => 0, fun _ => 0) i = some (nI (lenS.getD i 0)) := by decide
  exact h i hi
theorem str_at (S : St) {i k : Nat} (hi : i < 26) (hk : k < lenS.getD i 0) : f_J0_charAt_5068e S i (nI k) = some ((bytS.getD i []).getD k 0) := by
  have h : ∀ i, i < 26 → ∀ k, k < lenS.getD i 0 → f_J0_charAt_5068e (fun _ _ => 0, fun _ _ => 0, fun _ _ => 0, fun _ => 0) i (nI k) = some ((bytS.getD i []).getD k 0) := by decide +kernel
  exact h i hi k hk
theorem tk_ok {β : Type} {i : Nat} (hi : i < 26) (k : Option β) : tk i k = k := if_pos hi
theorem bytS_len : ∀ i, i < 26 → (bytS.getD i []).length = lenS.getD i 0 := by decide
def nbB (x : Int32) : Int32 := vp_nar .byte (Int8.toInt32 (Int32.toInt8 x))
def pL (a c l : Nat) : List Int32 → St → Nat → St
  | [], S, _ => S
  | x :: r, S, n => pL a c l r (uI (uI S a n (nbB x)) c l (nI (n + 1))) (n + 1)
theorem pL_app (a c l : Nat) : ∀ (L1 L2 : List Int32) (S : St) (n : Nat), pL a c l (L1 ++ L2) S n = pL a c l L2 (pL a c l L1 S n) (n + L1.length) := by
  intro L1
  induction L1 with
  | nil => intro L2 S n; rfl
  | cons x r ih =>
    intro L2 S n
    show pL a c l (r ++ L2) _ (n + 1) = _
    rw [ih, List.length_cons, show n + 1 + r.length = n + (r.length + 1) by omega]
    rfl
theorem SR0_pL (a c l : Nat) : ∀ (L : List Int32) (S : St) (n : Nat), SR0 S (pL a c l L S n) := by
  intro L
  induction L with
  | nil => intro S n; exact SR0.rf S
  | cons x r ih => intro S n; exact ((SR0_uI _ _ _ _).trans (SR0_uI _ _ _ _)).trans (ih _ _)
theorem gJ_pL (a c l : Nat) : ∀ (L : List Int32) (S : St) (n p q : Nat), gJ (pL a c l L S n) p q = gJ S p q := by
  intro L
  induction L with
  | nil => intro S n p q; rfl
  | cons x r ih => intro S n p q; show gJ (pL a c l r _ _) p q = _; rw [ih]; rfl
theorem gI_pL {a c : Nat} (h : a ≠ c) (l : Nat) : ∀ (L : List Int32) (S : St) (n p q : Nat), gI (pL a c l L S n) p q = if p = a ∧ n ≤ q ∧ q < n + L.length then nbB (L.getD (q - n) 0) else if p = c ∧ q = l ∧ 0 < L.length then nI (n + L.length) else gI S p q := by
  intro L
  induction L with
  | nil =>
    intro S n p q
    rw [if_neg (by simp only [List.length_nil]; omega), if_neg (by simp)]; rfl
  | cons x r ih =>
    intro S n p q
    show gI (pL a c l r _ (n + 1)) p q = _
    rw [ih, gI_uI, gI_uI, List.length_cons]
    by_cases h1 : p = a ∧ n + 1 ≤ q ∧ q < n + 1 + r.length
    · rw [if_pos h1, if_pos (by omega), show q - n = (q - (n + 1)) + 1 by omega]; rfl
    · rw [if_neg h1]
      by_cases h2 : p = a ∧ q = n
      · rw [if_neg (fun e => h (h2.1.symm.trans e.1)), if_neg (fun e => h (h2.1.symm.trans e.1)), if_pos h2, if_pos (by omega), h2.2, Nat.sub_self]; rfl
      · have h3 : ¬ (p = a ∧ n ≤ q ∧ q < n + (r.length + 1)) := by omega
        rw [if_neg h3, if_neg h2]
        by_cases h4 : p = c ∧ q = l
        · rw [if_pos (c := p = c ∧ q = l ∧ 0 < r.length + 1) ⟨h4.1, h4.2, by omega⟩, if_pos h4]
          by_cases h5 : 0 < r.length
          · rw [if_pos ⟨h4.1, h4.2, h5⟩, show n + 1 + r.length = n + (r.length + 1) by omega]
          · rw [if_neg (fun e => h5 e.2.2), show r.length = 0 by omega]
        · rw [if_neg (fun e => h4 ⟨e.1, e.2.1⟩), if_neg h4, if_neg (fun e => h4 ⟨e.1, e.2.1⟩)]
theorem cn_pL {a c : Nat} (h : a ≠ c) (l : Nat) (L : List Int32) (S : St) (n : Nat) (h0 : gI S c l = nI n) : gI (pL a c l L S n) c l = nI (n + L.length) := by
  rw [gI_pL h, if_neg (fun e => h e.1.symm)]
  by_cases h1 : 0 < L.length
  · rw [if_pos ⟨rfl, rfl, h1⟩]
  · rw [if_neg (fun e => h1 e.2.2), h0, show L.length = 0 by omega, Nat.add_zero]
/-! the ledger's side -/
theorem C_byte (t : TR S ad) {n : Nat} (h0 : gI S (ad 14) 1 = nI n) (hn : n < 256) (x : Int32) : f_X4_addByte S (ad 14) x = some (pL (ad 15) (ad 14) 1 [x] S n) := by
  have h1 : ¬ (256 : Int32) ≤ nI n := nI_ge hn (by decide)
  simp only [f_X4_addByte, lt_n, h0, if_neg h1, r_14_0 t]
  rw [stI_at (by rw [n_15 t]; exact hn) (by rw [n_15 t]; decide), gI_i t.1, if_neg (by omega), h0, nI_1]
  rfl
def dgt (d : Int64) : Int32 := 48 + Int64.toInt32 (d - d / 10 * 10)
theorem C_dig (t : TR S ad) {n : Nat} (h0 : gI S (ad 14) 1 = nI n) (hn : n < 256) (d : Int64) : f_X4_addDigit S (ad 14) d = some (pL (ad 15) (ad 14) 1 [dgt d] S n) := by
  simp only [f_X4_addDigit, C_byte t h0 hn, cl_n]; rfl
def wl (d : Int64) : Nat → List Int32
  | 0 => [dgt (d / lN 1)]
  | k + 1 => dgt (d / lN (10 ^ (k + 1))) :: wl d k
theorem wl_len (d : Int64) : ∀ k, (wl d k).length = k + 1 := by
  intro k
  induction k with
  | zero => rfl
  | succ k ih => rw [wl, List.length_cons, ih]
theorem n15_14 (t : TR S ad) : ad 15 ≠ ad 14 := fun e => absurd ((t.1 _ _).mp e) (by decide)
theorem n8_1 (t : TR S ad) : ad 8 ≠ ad 1 := fun e => absurd ((t.1 _ _).mp e) (by decide)
theorem lN10_pos {k : Nat} (hk : k ≤ 18) : 10 ^ k < 2 ^ 63 := by
  have : 10 ^ k ≤ 10 ^ 18 := Nat.pow_le_pow_right (by decide) hk
  omega
theorem lN_le0 {n : Nat} (h : n < 2 ^ 63) (h0 : 0 < n) : ¬ lN n ≤ 0 := by
  rw [show (0 : Int64) = lN 0 from rfl, pk_lLE h (by decide)]; omega
theorem lN_ne0 {n : Nat} (h : n < 2 ^ 63) (h0 : 0 < n) : ¬ lN n = 0 := by
  rw [show (0 : Int64) = lN 0 from rfl, pk_lEQ h (by decide)]; omega
theorem C_digs (d : Int64) : ∀ (k fuel : Nat) (S : St) (n : Nat), TR S ad → gI S (ad 14) 1 = nI n → n + k + 1 ≤ 256 → k ≤ 18 → k + 1 < fuel → lp (κ := Int64 → St → Option (St)) (fun _ _ => none) (fun k6 x4 S5 => if x4 ≤ 0 then (some S5) else (nzL x4 <| cl (f_X4_addDigit S5 (ad 14) (d / x4)) fun (S8 : St) => lt (x4 / 10) fun (v9 : Int64) => k6 v9 S8)) fuel (lN (10 ^ k)) S = some (pL (ad 15) (ad 14) 1 (wl d k) S n) := by
  intro k
  induction k with
  | zero =>
    intro fuel S n t h0 hn hk hf
    obtain ⟨q, rfl⟩ : ∃ q, fuel = q + 2 := ⟨fuel - 2, by omega⟩
    simp only [lp]
    rw [if_neg (by decide), nzL, if_neg (by decide), C_dig t h0 (by omega), cl_n, lt_n, if_pos (by decide)]
    rfl
  | succ k ih =>
    intro fuel S n t h0 hn hk hf
    obtain ⟨q, rfl⟩ : ∃ q, fuel = q + 1 := ⟨fuel - 1, by omega⟩
    have p1 := lN10_pos hk
    have p0 : 0 < 10 ^ (k + 1) := Nat.pow_pos (by decide)
    have e10 : lN (10 ^ (k + 1)) / 10 = lN (10 ^ k) := by
      rw [show (10 : Int64) = lN 10 from rfl, pk_lDiv p1 (by decide) (by decide), Nat.pow_succ, Nat.mul_div_cancel _ (by decide)]
    simp only [lp]
    rw [if_neg (lN_le0 p1 p0), nzL, if_neg (lN_ne0 p1 p0), C_dig t h0 (by omega), cl_n, lt_n, e10]
    have t1 : TR (pL (ad 15) (ad 14) 1 [dgt (d / lN (10 ^ (k + 1)))] S n) ad := TR_SR0 (SR0_pL _ _ _ _ _ _) t
    rw [ih q _ (n + 1) t1 (cn_pL (n15_14 t) 1 _ S n h0) (by omega) (by omega) (by omega)]
    rfl
theorem C_whole (t : TR S ad) {n K : Nat} (h0 : gI S (ad 14) 1 = nI n) (d : Int64) (hK : K ≤ 16) (hlt : ∀ j, j < K → ¬ d / lN (10 ^ j) < 10) (hend : d / lN (10 ^ K) < 10) (hn : n + K + 1 ≤ 256) : f_X4_addWhole S (ad 14) d = some (pL (ad 15) (ad 14) 1 (wl d K) S n) := by
  unfold f_X4_addWhole
  rw [jn_n]
  have key : ∀ m fuel i, i + m = K → m < fuel → lp (κ := Int64 → Int32 → Option (St)) (fun _ _ => none) (fun k12 x10 x11 => if 18 ≤ x11 then ((fun x1 => lp (κ := Int64 → St → Option (St)) (fun _ _ => none) (fun k6 x4 S5 => if x4 ≤ 0 then (some S5) else (nzL x4 <| cl (f_X4_addDigit S5 (ad 14) (d / x4)) fun (S8 : St) => lt (x4 / 10) fun (v9 : Int64) => k6 v9 S8)) FU x1 S) x10) else (nzL x10 <| if (d / x10) < 10 then ((fun x1 => lp (κ := Int64 → St → Option (St)) (fun _ _ => none) (fun k6 x4 S5 => if x4 ≤ 0 then (some S5) else (nzL x4 <| cl (f_X4_addDigit S5 (ad 14) (d / x4)) fun (S8 : St) => lt (x4 / 10) fun (v9 : Int64) => k6 v9 S8)) FU x1 S) x10) else (lt (x10 * 10) fun (v14 : Int64) => k12 v14 (x11 + 1)))) fuel (lN (10 ^ i)) (nI (1 + i)) = some (pL (ad 15) (ad 14) 1 (wl d K) S n) := by
    intro m
    induction m with
    | zero =>
      intro fuel i hi hf
      obtain ⟨q, rfl⟩ : ∃ q, fuel = q + 1 := ⟨fuel - 1, by omega⟩
      have e : i = K := by omega
      subst e
      simp only [lp]
      rw [if_neg (show ¬ (18 : Int32) ≤ nI (1 + i) from nI_ge (show 1 + i < 18 by omega) (by decide)), nzL, if_neg (lN_ne0 (lN10_pos (by omega)) (Nat.pow_pos (by decide))), if_pos hend]
      exact C_digs d i FU S n t h0 hn (by omega) (show i + 1 < 6000 by omega)
    | succ m ih =>
      intro fuel i hi hf
      obtain ⟨q, rfl⟩ : ∃ q, fuel = q + 1 := ⟨fuel - 1, by omega⟩
      have e10 : lN (10 ^ i) * 10 = lN (10 ^ (i + 1)) := by rw [show (10 : Int64) = lN 10 from rfl, lN_mul, ← Nat.pow_succ]
      simp only [lp]
      rw [if_neg (show ¬ (18 : Int32) ≤ nI (1 + i) from nI_ge (show 1 + i < 18 by omega) (by decide)), nzL, if_neg (lN_ne0 (lN10_pos (by omega)) (Nat.pow_pos (by decide))), if_neg (hlt i (by omega)), lt_n, e10, nI_1]
      exact ih q (i + 1) (by omega) (by omega)
  exact key K FU 0 (by omega) (show K < 6000 by omega)
