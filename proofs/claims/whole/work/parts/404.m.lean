/-! the pure part: the reference's own methods over its state -/
variable {S : St} {ad : Nat → Nat} {v : Nat → Int64} {np nf no mo : Nat}
def Mv (S : St) (ad : Nat → Nat) (v : Nat → Int64) (np nf no mo : Nat) : Prop := TR S ad ∧ gJ S (ad 3) = v ∧ v 1 = lN np ∧ v 2 = lN nf ∧ v 3 = lN no ∧ v 0 = lN mo ∧ np ≤ 4 ∧ nf ≤ 8 ∧ no ≤ 16 ∧ mo ≤ 60
theorem cl_s {α β : Type} (a : α) (k : α → Option β) : cl (some a) k = k a := rfl
theorem clx_l {α β : Type} (a : α) (k : α → Option (β ⊕ Nat)) : clx (some (.inl a)) k = k a := rfl
theorem clx_r {α β : Type} (n : Nat) (k : α → Option (β ⊕ Nat)) : clx (some (.inr n)) k = some (.inr n) := rfl
theorem lt_e {α β : Type} (a : α) (k : α → Option β) : lt a k = k a := rfl
theorem jn_e {κ β : Type} (r : κ) (b : κ → Option β) : jn r b = b r := rfl
def bI (b : Bool) : Int32 := if b then 1 else 0
def vin (p : Int32) (n : Nat) : Bool := decide (0 ≤ p.toInt) && decide (p.toInt < (n : Int))
theorem bI_0 (b : Bool) : (bI b = 0) ↔ b = false := by cases b <;> simp [bI]
theorem bI_1 (b : Bool) : (bI b = 1) ↔ b = true := by cases b <;> simp [bI]
theorem bI_t : bI true = 1 := rfl
theorem bI_f : bI false = 0 := rfl
theorem vin_iff {p : Int32} {n : Nat} : vin p n = true ↔ vp_in p n := by simp only [vin, Bool.and_eq_true, decide_eq_true_eq, vp_in_iff]
theorem vin_nI {j n : Nat} (h : j < n) (hn : n < 2 ^ 31) : vin (nI j) n = true := vin_iff.mpr (vp_in_nI h hn)
theorem vin_of {p : Int32} {n : Nat} (hn : n < 2 ^ 31) (h : vin p n = true) : ∃ j : Nat, j < n ∧ p = nI j := vp_in_of (vin_iff.mp h) hn
theorem zc_b {β : Type} {b : Bool} {k : Option β} : zc (bI b) k = k := by cases b <;> rfl
theorem if_bI {α : Type} {b : Bool} {x y : α} : (if bI b = 0 then x else y) = if b then y else x := by cases b <;> rfl
theorem if_bI1 {α : Type} {b : Bool} {x y : α} : (if bI b = 1 then x else y) = if b then x else y := by cases b <;> rfl
theorem bI_if {c : Prop} [Decidable c] : (if c then some (1 : Int32) else some 0) = some (bI (decide c)) := by by_cases h : c <;> simp [h, bI]
theorem bI_ifn {c : Prop} [Decidable c] : (if c then some (0 : Int32) else some 1) = some (bI (!decide c)) := by by_cases h : c <;> simp [h, bI]
theorem zc_0 {β : Type} {k : Option β} : zc 0 k = k := rfl
theorem zc_1 {β : Type} {k : Option β} : zc 1 k = k := rfl
theorem Mv_t (h : Mv S ad v np nf no mo) (a i : Nat) (w : Int32) : Mv (uI S a i w) ad v np nf no mo := ⟨TR_SR0 (SR0_uI S a i w) h.1, h.2⟩
theorem Mv_o (h : Mv S ad v np nf no mo) (i : Nat) (w : Int64) : Mv (uJ S (ad 2) i w) ad v np nf no mo := by
  refine ⟨TR_SR0 (SR0_uJ S _ i w) h.1, ?_, h.2.2⟩
  rw [← h.2.1]
  funext j
  rw [gJ_uJ, if_neg]
  intro e
  exact absurd ((h.1.1 3 2).mp e.1) (by decide)
theorem ldS (h : Mv S ad v np nf no mo) {β : Type} {k : Nat} {c : Int64 → Option β} (hk : k < 20216) : ldJ S (ad 3) (nI k) c = c (v k) := by
  rw [ldJ_at (by rw [n_3 h.1]; exact hk) (by rw [n_3 h.1]; decide), h.2.1]
theorem ldSe (h : Mv S ad v np nf no mo) {β : Type} {i : Int32} {k : Nat} {c : Int64 → Option β} (e : i = nI k) (hk : k < 20216) : ldJ S (ad 3) i c = c (v k) := by
  rw [e, ldS h hk]
theorem ld_0 (h : Mv S ad v np nf no mo) {β : Type} {c : Int64 → Option β} : ldJ S (ad 3) 0 c = c (v 0) := ldSe h (k := 0) rfl (by decide)
theorem ld_1 (h : Mv S ad v np nf no mo) {β : Type} {c : Int64 → Option β} : ldJ S (ad 3) 1 c = c (v 1) := ldSe h (k := 1) rfl (by decide)
theorem ld_2 (h : Mv S ad v np nf no mo) {β : Type} {c : Int64 → Option β} : ldJ S (ad 3) 2 c = c (v 2) := ldSe h (k := 2) rfl (by decide)
theorem ld_3 (h : Mv S ad v np nf no mo) {β : Type} {c : Int64 → Option β} : ldJ S (ad 3) 3 c = c (v 3) := ldSe h (k := 3) rfl (by decide)
theorem ge2 {i : Nat} (h : i < 2) : ¬ (2 : Int32) ≤ nI i := nI_ge h (by decide)
theorem le2 : (2 : Int32) ≤ nI 2 := nI_le (Nat.le_refl 2) (by decide)
theorem ge3 {i : Nat} (h : i < 3) : ¬ (3 : Int32) ≤ nI i := nI_ge h (by decide)
theorem le3 : (3 : Int32) ≤ nI 3 := nI_le (Nat.le_refl 3) (by decide)
theorem ge4 {i : Nat} (h : i < 4) : ¬ (4 : Int32) ≤ nI i := nI_ge h (by decide)
theorem le4 : (4 : Int32) ≤ nI 4 := nI_le (Nat.le_refl 4) (by decide)
theorem ge5 {i : Nat} (h : i < 5) : ¬ (5 : Int32) ≤ nI i := nI_ge h (by decide)
theorem le5 : (5 : Int32) ≤ nI 5 := nI_le (Nat.le_refl 5) (by decide)
theorem ge7 {i : Nat} (h : i < 7) : ¬ (7 : Int32) ≤ nI i := nI_ge h (by decide)
theorem le7 : (7 : Int32) ≤ nI 7 := nI_le (Nat.le_refl 7) (by decide)
theorem ge8 {i : Nat} (h : i < 8) : ¬ (8 : Int32) ≤ nI i := nI_ge h (by decide)
theorem le8 : (8 : Int32) ≤ nI 8 := nI_le (Nat.le_refl 8) (by decide)
theorem ge10 {i : Nat} (h : i < 10) : ¬ (10 : Int32) ≤ nI i := nI_ge h (by decide)
theorem le10 : (10 : Int32) ≤ nI 10 := nI_le (Nat.le_refl 10) (by decide)
theorem ge16 {i : Nat} (h : i < 16) : ¬ (16 : Int32) ≤ nI i := nI_ge h (by decide)
theorem le16 : (16 : Int32) ≤ nI 16 := nI_le (Nat.le_refl 16) (by decide)
theorem ge30 {i : Nat} (h : i < 30) : ¬ (30 : Int32) ≤ nI i := nI_ge h (by decide)
theorem le30 : (30 : Int32) ≤ nI 30 := nI_le (Nat.le_refl 30) (by decide)
theorem ge40 {i : Nat} (h : i < 40) : ¬ (40 : Int32) ≤ nI i := nI_ge h (by decide)
theorem le40 : (40 : Int32) ≤ nI 40 := nI_le (Nat.le_refl 40) (by decide)
theorem ge60 {i : Nat} (h : i < 60) : ¬ (60 : Int32) ≤ nI i := nI_ge h (by decide)
theorem le60 : (60 : Int32) ≤ nI 60 := nI_le (Nat.le_refl 60) (by decide)
theorem ge64 {i : Nat} (h : i < 64) : ¬ (64 : Int32) ≤ nI i := nI_ge h (by decide)
theorem le64 : (64 : Int32) ≤ nI 64 := nI_le (Nat.le_refl 64) (by decide)
theorem ge900 {i : Nat} (h : i < 900) : ¬ (900 : Int32) ≤ nI i := nI_ge h (by decide)
theorem le900 : (900 : Int32) ≤ nI 900 := nI_le (Nat.le_refl 900) (by decide)
theorem ge1500 {i : Nat} (h : i < 1500) : ¬ (1500 : Int32) ≤ nI i := nI_ge h (by decide)
theorem le1500 : (1500 : Int32) ≤ nI 1500 := nI_le (Nat.le_refl 1500) (by decide)
theorem ge5054 {i : Nat} (h : i < 5054) : ¬ (5054 : Int32) ≤ nI i := nI_ge h (by decide)
theorem le5054 : (5054 : Int32) ≤ nI 5054 := nI_le (Nat.le_refl 5054) (by decide)
theorem ad1 (i : Nat) : (1 : Int32) + nI i = nI (1 + i) := nI_add 1 i
theorem da1 (i : Nat) : nI i + (1 : Int32) = nI (i + 1) := nI_add i 1
theorem ad2 (i : Nat) : (2 : Int32) + nI i = nI (2 + i) := nI_add 2 i
theorem da2 (i : Nat) : nI i + (2 : Int32) = nI (i + 2) := nI_add i 2
theorem ad3 (i : Nat) : (3 : Int32) + nI i = nI (3 + i) := nI_add 3 i
theorem da3 (i : Nat) : nI i + (3 : Int32) = nI (i + 3) := nI_add i 3
theorem ad4 (i : Nat) : (4 : Int32) + nI i = nI (4 + i) := nI_add 4 i
theorem da4 (i : Nat) : nI i + (4 : Int32) = nI (i + 4) := nI_add i 4
theorem ad5 (i : Nat) : (5 : Int32) + nI i = nI (5 + i) := nI_add 5 i
theorem da5 (i : Nat) : nI i + (5 : Int32) = nI (i + 5) := nI_add i 5
theorem ad6 (i : Nat) : (6 : Int32) + nI i = nI (6 + i) := nI_add 6 i
theorem da6 (i : Nat) : nI i + (6 : Int32) = nI (i + 6) := nI_add i 6
theorem ad7 (i : Nat) : (7 : Int32) + nI i = nI (7 + i) := nI_add 7 i
theorem da7 (i : Nat) : nI i + (7 : Int32) = nI (i + 7) := nI_add i 7
theorem ad8 (i : Nat) : (8 : Int32) + nI i = nI (8 + i) := nI_add 8 i
theorem da8 (i : Nat) : nI i + (8 : Int32) = nI (i + 8) := nI_add i 8
theorem ad9 (i : Nat) : (9 : Int32) + nI i = nI (9 + i) := nI_add 9 i
theorem da9 (i : Nat) : nI i + (9 : Int32) = nI (i + 9) := nI_add i 9
theorem ad10 (i : Nat) : (10 : Int32) + nI i = nI (10 + i) := nI_add 10 i
theorem da10 (i : Nat) : nI i + (10 : Int32) = nI (i + 10) := nI_add i 10
theorem ad11 (i : Nat) : (11 : Int32) + nI i = nI (11 + i) := nI_add 11 i
theorem da11 (i : Nat) : nI i + (11 : Int32) = nI (i + 11) := nI_add i 11
theorem ad14 (i : Nat) : (14 : Int32) + nI i = nI (14 + i) := nI_add 14 i
theorem da14 (i : Nat) : nI i + (14 : Int32) = nI (i + 14) := nI_add i 14
theorem ad58 (i : Nat) : (58 : Int32) + nI i = nI (58 + i) := nI_add 58 i
theorem da58 (i : Nat) : nI i + (58 : Int32) = nI (i + 58) := nI_add i 58
theorem ad186 (i : Nat) : (186 : Int32) + nI i = nI (186 + i) := nI_add 186 i
theorem da186 (i : Nat) : nI i + (186 : Int32) = nI (i + 186) := nI_add i 186
theorem ad250 (i : Nat) : (250 : Int32) + nI i = nI (250 + i) := nI_add 250 i
theorem da250 (i : Nat) : nI i + (250 : Int32) = nI (i + 250) := nI_add i 250
theorem ad1150 (i : Nat) : (1150 : Int32) + nI i = nI (1150 + i) := nI_add 1150 i
theorem da1150 (i : Nat) : nI i + (1150 : Int32) = nI (i + 1150) := nI_add i 1150
theorem ad1214 (i : Nat) : (1214 : Int32) + nI i = nI (1214 + i) := nI_add 1214 i
theorem da1214 (i : Nat) : nI i + (1214 : Int32) = nI (i + 1214) := nI_add i 1214
theorem ad1694 (i : Nat) : (1694 : Int32) + nI i = nI (1694 + i) := nI_add 1694 i
theorem da1694 (i : Nat) : nI i + (1694 : Int32) = nI (i + 1694) := nI_add i 1694
theorem ad100 (i : Nat) : (100 : Int32) + nI i = nI (100 + i) := nI_add 100 i
theorem da100 (i : Nat) : nI i + (100 : Int32) = nI (i + 100) := nI_add i 100
theorem mu2 (i : Nat) : (2 : Int32) * nI i = nI (2 * i) := pk_mul 2 i
theorem um2 (i : Nat) : nI i * (2 : Int32) = nI (i * 2) := pk_mul i 2
theorem mu4 (i : Nat) : (4 : Int32) * nI i = nI (4 * i) := pk_mul 4 i
theorem um4 (i : Nat) : nI i * (4 : Int32) = nI (i * 4) := pk_mul i 4
theorem mu5 (i : Nat) : (5 : Int32) * nI i = nI (5 * i) := pk_mul 5 i
theorem um5 (i : Nat) : nI i * (5 : Int32) = nI (i * 5) := pk_mul i 5
theorem mu7 (i : Nat) : (7 : Int32) * nI i = nI (7 * i) := pk_mul 7 i
theorem um7 (i : Nat) : nI i * (7 : Int32) = nI (i * 7) := pk_mul i 7
theorem mu8 (i : Nat) : (8 : Int32) * nI i = nI (8 * i) := pk_mul 8 i
theorem um8 (i : Nat) : nI i * (8 : Int32) = nI (i * 8) := pk_mul i 8
theorem mu10 (i : Nat) : (10 : Int32) * nI i = nI (10 * i) := pk_mul 10 i
theorem um10 (i : Nat) : nI i * (10 : Int32) = nI (i * 10) := pk_mul i 10
theorem mu11 (i : Nat) : (11 : Int32) * nI i = nI (11 * i) := pk_mul 11 i
theorem um11 (i : Nat) : nI i * (11 : Int32) = nI (i * 11) := pk_mul i 11
theorem mu16 (i : Nat) : (16 : Int32) * nI i = nI (16 * i) := pk_mul 16 i
theorem um16 (i : Nat) : nI i * (16 : Int32) = nI (i * 16) := pk_mul i 16
theorem mu30 (i : Nat) : (30 : Int32) * nI i = nI (30 * i) := pk_mul 30 i
theorem um30 (i : Nat) : nI i * (30 : Int32) = nI (i * 30) := pk_mul i 30
theorem mu100 (i : Nat) : (100 : Int32) * nI i = nI (100 * i) := pk_mul 100 i
theorem um100 (i : Nat) : nI i * (100 : Int32) = nI (i * 100) := pk_mul i 100
theorem mu5054 (i : Nat) : (5054 : Int32) * nI i = nI (5054 * i) := pk_mul 5054 i
theorem um5054 (i : Nat) : nI i * (5054 : Int32) = nI (i * 5054) := pk_mul i 5054
theorem dv30 {i : Nat} (h : i < 2 ^ 31) : nI i / (30 : Int32) = nI (i / 30) := pk_div (d := 30) h (by decide) (by decide)
theorem rm30 {i : Nat} (h : i < 2 ^ 31) : nI i - nI i / (30 : Int32) * (30 : Int32) = nI (i % 30) := pk_rem (d := 30) h (by decide) (by decide)
theorem M_inRange (S : St) (a lo hi : Int64) : f_X12_inRange S a lo hi = some (bI (decide (lo ≤ a) && decide (a ≤ hi))) := by
  simp only [f_X12_inRange, jn_e]
  by_cases h1 : a < lo
  · simp [h1, Int64.not_le.mpr h1, bI]
  · by_cases h2 : hi < a
    · simp [h1, h2, Int64.not_le.mpr h2, bI]
    · simp [h1, h2, Int64.not_lt.mp h1, Int64.not_lt.mp h2, bI]
theorem rng_vin (p : Int32) {n : Nat} (hn : n < 2 ^ 31) : (decide ((0 : Int64) ≤ p.toInt64) && decide (p.toInt64 ≤ lN n - 1)) = vin p n := by
  rw [Bool.eq_iff_iff, Bool.and_eq_true, decide_eq_true_eq, decide_eq_true_eq, vin_iff, rng_iff p hn]
theorem M_isFr (h : Mv S ad v np nf no mo) (p : Int32) : f_X12_isFranchisee S (ad 1) p = some (bI (vin p nf)) := by
  simp only [f_X12_isFranchisee, lt_e, r_1_0 h.1, ld_2 h, M_inRange, cl_s, zc_b]
  rw [h.2.2.2.1, rng_vin p (by have := h.2.2.2.2.2.2.2.1; omega)]
theorem M_isPl (h : Mv S ad v np nf no mo) (p : Int32) : f_X12_isPlan S (ad 1) p = some (bI (vin p np)) := by
  simp only [f_X12_isPlan, lt_e, r_1_0 h.1, ld_1 h, M_inRange, cl_s, zc_b]
  rw [h.2.2.1, rng_vin p (by have := h.2.2.2.2.2.2.1; omega)]
theorem M_isOu (h : Mv S ad v np nf no mo) (p : Int32) : f_X12_isOutlet S (ad 1) p = some (bI (vin p no)) := by
  simp only [f_X12_isOutlet, lt_e, r_1_0 h.1, ld_3 h, M_inRange, cl_s, zc_b]
  rw [h.2.2.2.2.1, rng_vin p (by have := h.2.2.2.2.2.2.2.2.1; omega)]
theorem rng29 (p : Int32) : (decide ((0 : Int64) ≤ p.toInt64) && decide (p.toInt64 ≤ 29)) = vin p 30 := rng_vin p (n := 30) (by decide)
theorem M_isCell (S : St) (p q : Int32) : f_X12_isCell S p q = some (bI (vin p 30 && vin q 30)) := by
  simp only [f_X12_isCell, M_inRange, cl_s, jn_e, rng29, if_bI]
  cases vin p 30 <;> cases vin q 30 <;> rfl
theorem M_throws (S : St) (m : Nat) (w : Int32) {b : Bool} : f_X12_throwsIf S m (bI b) w = some (bI b, if b then uI S m 2 w else S) := by
  cases b <;> rfl
theorem M_throws1 (S : St) (m : Nat) (w : Int32) : f_X12_throwsIf S m 1 w = some (1, uI S m 2 w) := rfl
theorem M_throws0 (S : St) (m : Nat) (w : Int32) : f_X12_throwsIf S m 0 w = some (0, S) := rfl
def mArea (v : Nat → Int64) (p : Int32) : Int32 := itr (fun c n => n + (if v (250 + c) = p.toInt64 then 1 else 0)) 0 900 0
theorem M_areaOf (h : Mv S ad v np nf no mo) (p : Int32) : f_X12_areaOf S (ad 1) p = some (mArea v p) := by
  simp only [f_X12_areaOf, lt_e, jn_e, r_1_0 h.1]
  refine lp_for0 (fun (k : Int32 → Int32 → Option Int32) i s => k s (nI i)) _ _ 900 (by decide) _ some (fun _ _ => True) 0 trivial ?_ (fun _ _ _ _ => trivial) ?_
  · intro k i s hi _
    rw [if_neg (ge900 hi), ldSe h (ad250 i) (by omega)]
    by_cases hc : v (250 + i) = p.toInt64 <;> simp only [hc, if_true, if_false, nI_1]
  · intro k s _
    rw [if_pos le900]
theorem M_area (h : Mv S ad v np nf no mo) (p : Int32) : f_X12_area S (ad 1) p = if vin p nf then some (mArea v p, uI S (ad 1) 2 0) else some (0, uI S (ad 1) 2 1) := by
  have h1 := Mv_t h (ad 1) 2 0
  simp only [f_X12_area, lt_e, M_isFr h1, cl_s, jn_e, if_bI, M_throws0, M_throws1, M_areaOf h1, uI_uI]
  cases vin p nf <;> rfl
