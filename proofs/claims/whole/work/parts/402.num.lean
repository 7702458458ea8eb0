/-! the pure part: numbers -/
theorem tl_lt (a b : Int32) : a.toInt64 < b.toInt64 ↔ a < b := by rw [Int64.lt_iff_toInt_lt, Int32.lt_iff_toInt_lt, Int32.toInt_toInt64, Int32.toInt_toInt64]
theorem tl_le (a b : Int32) : a.toInt64 ≤ b.toInt64 ↔ a ≤ b := by rw [Int64.le_iff_toInt_le, Int32.le_iff_toInt_le, Int32.toInt_toInt64, Int32.toInt_toInt64]
theorem tl_eq (a b : Int32) : a.toInt64 = b.toInt64 ↔ a = b := by rw [← Int64.toInt_inj, ← Int32.toInt_inj, Int32.toInt_toInt64, Int32.toInt_toInt64]
theorem tl_i (a : Int32) : a.toInt64.toInt32 = a := by simp
theorem tl_0 : (0 : Int32).toInt64 = 0 := rfl
theorem tl_nI {n : Nat} (h : n < 2 ^ 31) : (nI n).toInt64 = lN n := nI_l h
theorem tl_m1 : (-1 : Int32).toInt64 = -1 := rfl
theorem ge_lt (a b : Int32) : ¬ a ≤ b ↔ b < a := Int32.not_le
theorem lt_ge (a b : Int32) : ¬ a < b ↔ b ≤ a := Int32.not_lt
theorem ix_iff (p : Int32) {n : Nat} (hn : n < 2 ^ 31) : (¬ p < 0 ∧ ¬ nI n ≤ p) ↔ vp_in p n := by
  rw [vp_in_iff, Int32.lt_iff_toInt_lt, Int32.le_iff_toInt_le, nI_toInt hn, show (0 : Int32).toInt = 0 from rfl]
  omega
theorem nI_inj {a b : Nat} (ha : a < 2 ^ 31) (hb : b < 2 ^ 31) (h : nI a = nI b) : a = b := (nI_eq ha hb).mp h
theorem lN_l {n : Nat} (h : n < 2 ^ 31) (p : Int32) : p.toInt64 < lN n ↔ p < nI n := by rw [← nI_l h, tl_lt]
theorem lN_l2 {n : Nat} (h : n < 2 ^ 31) (p : Int32) : lN n ≤ p.toInt64 ↔ nI n ≤ p := by rw [← nI_l h, tl_le]
/-- an int within bounds -/
theorem in_of {p : Int32} {n : Nat} (hn : n < 2 ^ 31) (h : vp_in p n) : ∃ j : Nat, j < n ∧ p = nI j := vp_in_of h hn
theorem rng_iff (p : Int32) {n : Nat} (hn : n < 2 ^ 31) : ((0 : Int64) ≤ p.toInt64 ∧ p.toInt64 ≤ lN n - 1) ↔ vp_in p n := by
  rw [vp_in_iff, Int64.le_iff_toInt_le, Int64.le_iff_toInt_le, Int32.toInt_toInt64, show (0 : Int64).toInt = 0 from rfl]
  have h2 : (lN n - 1).toInt = (n : Int) - 1 := by
    rw [Int64.toInt_sub, lN_toInt hn, show (1 : Int64).toInt = 1 from rfl]
    rw [Int.bmod_eq_of_le] <;> omega
  rw [h2]
  omega
theorem if_p {α : Type} {c : Prop} [Decidable c] (h : c) {a b : α} : (if c then a else b) = a := if_pos h
theorem if_n {α : Type} {c : Prop} [Decidable c] (h : ¬ c) {a b : α} : (if c then a else b) = b := if_neg h
theorem b10 {c : Prop} [Decidable c] : ((if c then (1 : Int32) else 0) = 0) ↔ ¬ c := by by_cases h : c <;> simp [h]
theorem b01 {c : Prop} [Decidable c] : ((if c then (0 : Int32) else 1) = 0) ↔ c := by by_cases h : c <;> simp [h]
theorem uI_uI (S : St) (a i : Nat) (v w : Int32) : uI (uI S a i v) a i w = uI S a i w := by
  simp only [uI]
  congr 1
  funext b j
  simp only [up2]
  by_cases h1 : b = a <;> by_cases h2 : j = i <;> simp [h1, h2]
theorem uJ_uJ (S : St) (a i : Nat) (v w : Int64) : uJ (uJ S a i v) a i w = uJ S a i w := by
  simp only [uJ]
  congr 2
  funext b j
  simp only [up2]
  by_cases h1 : b = a <;> by_cases h2 : j = i <;> simp [h1, h2]
