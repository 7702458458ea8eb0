/-! the pure part: an invoice's text -/
variable {S S0 S1 S2 S' S'' S3 X : St} {ad : Nat → Nat} {b d j k : Nat} {v v0 v' v1 v2 u w : Nat → Int64} {np nf no mo no' mo' x y : Nat}
def OKK (a : Int64) (K : Nat) : Prop := K ≤ 16 ∧ (∀ j, j < K → ¬ abI a / 100 / lN (10 ^ j) < 10) ∧ abI a / 100 / lN (10 ^ K) < 10 ∧ (∀ j, j < K → ¬ abI a / lN (100 * 10 ^ j) ≤ 9) ∧ abI a / lN (100 * 10 ^ K) ≤ 9 ∧ rlL (abI a) K = wl (abI a / 100) K ++ [46, dgt (abI a / 10), dgt (abI a)]
theorem abI_min {a : Int64} (h : abI a < 0) : abI a = -9223372036854775808 := by
  unfold abI at h ⊢
  by_cases hp : 0 ≤ a
  · rw [if_pos hp] at h
    exact absurd h (Int64.not_lt.mpr hp)
  · rw [if_neg hp] at h ⊢
    have h1 := Int64.not_le.mp hp
    rw [Int64.lt_iff_toInt_lt, show (0 : Int64).toInt = 0 from rfl] at h h1
    have h2 := Int64.le_toInt a
    rw [Int64.toInt_neg] at h
    have e : a.toInt = -2 ^ 63 := by
      by_cases e : a.toInt = -2 ^ 63
      · exact e
      · rw [Int.bmod_eq_of_le (by omega) (by omega)] at h
        omega
    have ea : a = -9223372036854775808 := Int64.toInt_inj.mp (by rw [e]; rfl)
    rw [ea]; decide
theorem rl_wl {C : Nat} (hC : C < 2 ^ 63) : ∀ k, k ≤ 16 → rlL (lN C) k = wl (lN C / 100) k ++ [46, dgt (lN C / 10), dgt (lN C)] := by
  intro k
  induction k with
  | zero =>
    intro _
    have e1 : lN C / lN 1 = lN C := by rw [pk_lDiv hC (by decide) (by decide), Nat.div_one]
    have e2 : lN C / 100 / lN 1 = lN C / 100 := by
      rw [show (100 : Int64) = lN 100 from rfl, pk_lDiv hC (by decide) (by decide), pk_lDiv (by omega) (by decide) (by decide), Nat.div_one]
    show [dgt (lN C / lN 100), 46, dgt (lN C / lN 10), dgt (lN C / lN 1)] = [dgt (lN C / 100 / lN 1)] ++ [46, dgt (lN C / 10), dgt (lN C)]
    rw [e1, e2]; rfl
  | succ k ih =>
    intro hk
    obtain ⟨p1, p0⟩ := p100 hk
    have q1 := lN10_pos (k := k + 1) (by omega)
    have e : lN C / lN (100 * 10 ^ (k + 1)) = lN C / 100 / lN (10 ^ (k + 1)) := by
      rw [show (100 : Int64) = lN 100 from rfl, pk_lDiv hC p0 p1, pk_lDiv hC (by decide) (by decide), pk_lDiv (by omega) (Nat.pow_pos (by decide)) q1, Nat.div_div_eq_div_mul]
    show dgt (lN C / lN (100 * 10 ^ (k + 1))) :: rlL (lN C) k = (dgt (lN C / 100 / lN (10 ^ (k + 1))) :: wl (lN C / 100) k) ++ _
    rw [ih (by omega), e]; rfl
theorem OKK_ex (a : Int64) : ∃ K, OKK a K := by
  by_cases h : abI a < 0
  · have e := abI_min h
    unfold OKK
    rw [e]
    exact ⟨0, by decide, fun j hj => absurd hj (by omega), by decide, fun j hj => absurd hj (by omega), by decide, by decide⟩
  · obtain ⟨C, hC, e⟩ := pk_lOf h
    unfold OKK
    rw [e]
    have P16 : C / 100 / 10 ^ 16 ≤ 9 := by omega
    obtain ⟨K, hK, hmin⟩ := pk_least (fun k => C / 100 / 10 ^ k ≤ 9) ⟨16, P16⟩
    have hK16 : K ≤ 16 := by
      by_cases h16 : K ≤ 16
      · exact h16
      · exact absurd P16 (hmin 16 (by omega))
    have e1 : ∀ k, k ≤ 16 → lN C / 100 / lN (10 ^ k) = lN (C / 100 / 10 ^ k) := fun k hk => by
      rw [show (100 : Int64) = lN 100 from rfl, pk_lDiv hC (by decide) (by decide), pk_lDiv (by omega) (Nat.pow_pos (by decide)) (lN10_pos (by omega))]
    have e2 : ∀ k, k ≤ 16 → lN C / lN (100 * 10 ^ k) = lN (C / 100 / 10 ^ k) := fun k hk => by
      obtain ⟨p1, p0⟩ := p100 hk
      rw [pk_lDiv hC p0 p1, Nat.div_div_eq_div_mul]
    have bd : ∀ k, C / 100 / 10 ^ k < 2 ^ 63 := fun k => Nat.lt_of_le_of_lt (Nat.div_le_self _ _) (by omega)
    have e3 : ∀ k, (lN (C / 100 / 10 ^ k) < 10) ↔ C / 100 / 10 ^ k ≤ 9 := fun k => by
      rw [show (10 : Int64) = lN 10 from rfl, Int64.lt_iff_toInt_lt, lN_tI (bd k), lN_tI (by decide)]; omega
    have e4 : ∀ k, (lN (C / 100 / 10 ^ k) ≤ 9) ↔ C / 100 / 10 ^ k ≤ 9 := fun k => by
      rw [show (9 : Int64) = lN 9 from rfl, pk_lLE (bd k) (by decide)]
    exact ⟨K, hK16, fun j hj => by rw [e1 j (by omega), e3]; exact hmin j hj, by rw [e1 K hK16, e3]; exact hK, fun j hj => by rw [e2 j (by omega), e4]; exact hmin j hj, by rw [e2 K hK16, e4]; exact hK, rl_wl hC K hK16⟩
/-! words -/
def shW (i : Nat) : Int32 := 45 + (-5) * nI i
def lwL (w : Int64) : Nat → List Int32
  | 0 => []
  | i + 1 => lwL w i ++ (if ((w >>> ((Int32.toInt64 (shW i)) &&& 63)) &&& 31) ≤ 0 then [] else [96 + (Int64.toInt32 ((w >>> ((Int32.toInt64 (shW i)) &&& 63)) &&& 31))])
theorem lwL_len (w : Int64) : ∀ i, (lwL w i).length ≤ i := by
  intro i
  induction i with
  | zero => exact Nat.le_refl _
  | succ i ih =>
    rw [lwL, List.length_append]
    by_cases h : ((w >>> ((Int32.toInt64 (shW i)) &&& 63)) &&& 31) ≤ 0
    · rw [if_pos h]; simp; omega
    · rw [if_neg h]; simp; omega
theorem R_word (t : TR S ad) {n : Nat} (h0 : gI S (ad 1) 7 = nI n) (hn : n + 11 ≤ 300) (w : Int64) : f_X12_appendWord S (ad 1) w = some (pL (ad 8) (ad 1) 7 (lwL w 10 ++ [32]) S n) := by
  unfold f_X12_appendWord
  refine (jn_n _ _).trans ?_
  have T : ∀ i, TR (pL (ad 8) (ad 1) 7 (lwL w i) S n) ad := fun i => TR_SR0 (SR0_pL _ _ _ _ _ _) t
  have C : ∀ i, gI (pL (ad 8) (ad 1) 7 (lwL w i) S n) (ad 1) 7 = nI (n + (lwL w i).length) := fun i => cn_pL (n8_1 t) 7 _ S n h0
  refine (lp_for (fun (K : Int32 → St → Option St) i (s : St) => K (shW i) s) _ _ 10 (fun i _ => pL (ad 8) (ad 1) 7 (lwL w (i + 1)) S n) (fun s => cl (f_X12_append s (ad 1) 32) fun S4 => some S4) (fun i s => s = pL (ad 8) (ad 1) 7 (lwL w i) S n) ?_ (fun _ _ _ _ => rfl) ?_ 10 FU 0 S rfl rfl (show 10 < 6000 by omega)).trans ?_
  · rintro K i s hi rfl
    have hp : ∀ i, i < 10 → ¬ shW i < 0 := by decide
    have hs : shW i + (-5) = shW (i + 1) := by
      unfold shW
      rw [← nI_1, Int32.mul_add, Int32.mul_one, Int32.add_assoc]
    rw [if_neg (hp i hi)]
    refine (jn_n _ _).trans ?_
    have hl := lwL_len w i
    by_cases h : ((w >>> ((Int32.toInt64 (shW i)) &&& 63)) &&& 31) ≤ 0
    · rw [if_pos h, hs, lwL, if_pos h, List.append_nil]
    · rw [if_neg h, R_app (T i) (C i) (by omega), cl_n, hs, lwL, if_neg h, pL_app]
  · rintro K s rfl
    rw [if_pos (show shW 10 < 0 by decide)]
  · show (cl (f_X12_append (pL (ad 8) (ad 1) 7 (lwL w 10) S n) (ad 1) 32) fun S4 => some S4) = _
    have hl := lwL_len w 10
    rw [R_app (T 10) (C 10) (by omega), cl_n, pL_app]
theorem R_pn (S : St) {k : Nat} (hk : k < 7) : ∃ w, f_X12_partName S (nI k) = some w ∧ (if k = 0 then [] else [32]) ++ (lwL w 10 ++ [32]) = bytS.getD (19 + k) [] := by
  have h : ∀ k, k < 7 → ∃ w, f_X12_partName (fun _ _ => 0, fun _ _ => 0, fun _ _ => 0, fun _ => 0) (nI k) = some w ∧ (if k = 0 then [] else [32]) ++ (lwL w 10 ++ [32]) = bytS.getD (19 + k) [] := by
    intro k hk
    rcases (show k = 0 ∨ k = 1 ∨ k = 2 ∨ k = 3 ∨ k = 4 ∨ k = 5 ∨ k = 6 by omega) with rfl | rfl | rfl | rfl | rfl | rfl | rfl
    all_goals exact ⟨_, rfl, by decide +kernel⟩
  exact h k hk
