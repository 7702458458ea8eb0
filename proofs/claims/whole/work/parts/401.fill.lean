/-! Arrays.fill -/
def flI (S : St) (a : Nat) (v : Int32) (n : Nat) : St := (fun b j => if b = a ∧ j < n then v else S.1 b j, S.2)
def flJ (S : St) (a : Nat) (v : Int64) (n : Nat) : St := (S.1, fun b j => if b = a ∧ j < n then v else S.2.1 b j, S.2.2)
theorem flI_0 (S : St) (a : Nat) (v : Int32) : flI S a v 0 = S := by simp [flI]
theorem flJ_0 (S : St) (a : Nat) (v : Int64) : flJ S a v 0 = S := by simp [flJ]
theorem flI_s (S : St) (a n : Nat) (v : Int32) : uI (flI S a v n) a n v = flI S a v (n + 1) := by
  simp only [uI, flI, up2]
  congr 1
  funext b j
  simp only [up2]
  by_cases h1 : b = a
  · subst h1
    by_cases h2 : j = n
    · subst h2; simp
    · by_cases h3 : j < n
      · simp [h2, h3, show j < n + 1 by omega]
      · simp [h2, h3, show ¬ j < n + 1 by omega]
  · simp [h1]
theorem flJ_s (S : St) (a n : Nat) (v : Int64) : uJ (flJ S a v n) a n v = flJ S a v (n + 1) := by
  simp only [uJ, flJ, up2]
  congr 2
  funext b j
  simp only [up2]
  by_cases h1 : b = a
  · subst h1
    by_cases h2 : j = n
    · subst h2; simp
    · by_cases h3 : j < n
      · simp [h2, h3, show j < n + 1 by omega]
      · simp [h2, h3, show ¬ j < n + 1 by omega]
  · simp [h1]
theorem gI_flI (S : St) (a n : Nat) (v : Int32) (b j : Nat) : gI (flI S a v n) b j = if b = a ∧ j < n then v else gI S b j := rfl
theorem gJ_flI (S : St) (a n : Nat) (v : Int32) (b j : Nat) : gJ (flI S a v n) b j = gJ S b j := rfl
theorem gR_flI (S : St) (a n : Nat) (v : Int32) (b j : Nat) : gR (flI S a v n) b j = gR S b j := rfl
theorem gN_flI (S : St) (a n : Nat) (v : Int32) (b : Nat) : gN (flI S a v n) b = gN S b := rfl
theorem gJ_flJ (S : St) (a n : Nat) (v : Int64) (b j : Nat) : gJ (flJ S a v n) b j = if b = a ∧ j < n then v else gJ S b j := rfl
theorem gI_flJ (S : St) (a n : Nat) (v : Int64) (b j : Nat) : gI (flJ S a v n) b j = gI S b j := rfl
theorem gR_flJ (S : St) (a n : Nat) (v : Int64) (b j : Nat) : gR (flJ S a v n) b j = gR S b j := rfl
theorem gN_flJ (S : St) (a n : Nat) (v : Int64) (b : Nat) : gN (flJ S a v n) b = gN S b := rfl
theorem SR0_flI (S : St) (a n : Nat) (v : Int32) : SR0 S (flI S a v n) := ⟨fun _ _ => rfl, fun _ => rfl⟩
theorem SR0_flJ (S : St) (a n : Nat) (v : Int64) : SR0 S (flJ S a v n) := ⟨fun _ _ => rfl, fun _ => rfl⟩
theorem fill_I (S : St) (a : Nat) (v : Int32) {N : Nat} (hN : gN S a = N) (hl : N < 6000) : f_J7_fill_53178 S a v = some (flI S a v N) := by
  unfold f_J7_fill_53178
  simp only [lt, hN]
  refine (lp_for0 (fun (k : Int32 → St → Option St) i s => k (nI i) s) (fun _ _ => none) _ N hl (fun i s => uI s a i v) some (fun i s => s = flI S a v i) S (flI_0 S a v).symm ?_ ?_ ?_).trans ?_
  · intro k i s hi hs
    subst hs
    have h1 : ¬ nI N ≤ nI i := by rw [nI_leI (by omega) (by omega)]; omega
    simp only [if_neg h1]
    rw [stI_at (by rw [gN_flI, hN]; exact hi) (by rw [gN_flI, hN]; omega), nI_1]
  · intro i s hi hs
    subst hs
    exact flI_s S a i v
  · intro k s hs
    have h1 : nI N ≤ nI N := by rw [nI_leI (by omega) (by omega)]; exact Nat.le_refl _
    simp only [if_pos h1]
  · have := itr_inv (N := N) (f := fun i s => uI s a i v) (fun i s => s = flI S a v i) (fun i s hi hs => by subst hs; exact flI_s S a i v) N 0 S (by omega) (flI_0 S a v).symm
    rw [Nat.zero_add] at this
    rw [this]
theorem fill_J (S : St) (a : Nat) (v : Int64) {N : Nat} (hN : gN S a = N) (hl : N < 6000) : f_J7_fill_d0a16 S a v = some (flJ S a v N) := by
  unfold f_J7_fill_d0a16
  simp only [lt, hN]
  refine (lp_for0 (fun (k : Int32 → St → Option St) i s => k (nI i) s) (fun _ _ => none) _ N hl (fun i s => uJ s a i v) some (fun i s => s = flJ S a v i) S (flJ_0 S a v).symm ?_ ?_ ?_).trans ?_
  · intro k i s hi hs
    subst hs
    have h1 : ¬ nI N ≤ nI i := by rw [nI_leI (by omega) (by omega)]; omega
    simp only [if_neg h1]
    rw [stJ_at (by rw [gN_flJ, hN]; exact hi) (by rw [gN_flJ, hN]; omega), nI_1]
  · intro i s hi hs
    subst hs
    exact flJ_s S a i v
  · intro k s hs
    have h1 : nI N ≤ nI N := by rw [nI_leI (by omega) (by omega)]; exact Nat.le_refl _
    simp only [if_pos h1]
  · have := itr_inv (N := N) (f := fun i s => uJ s a i v) (fun i s => s = flJ S a v i) (fun i s hi hs => by subst hs; exact flJ_s S a i v) N 0 S (by omega) (flJ_0 S a v).symm
    rw [Nat.zero_add] at this
    rw [this]
