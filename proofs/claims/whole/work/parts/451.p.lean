/-! the pure part: an invoice's text, part by part -/
variable {S S0 S1 S2 S' S'' S3 X : St} {ad : Nat → Nat} {b d j k : Nat} {v v0 v' v1 v2 u w : Nat → Int64} {np nf no mo no' mo' x y : Nat}
def abI (a : Int64) : Int64 := if 0 ≤ a then a else -a
def sgL (a : Int64) : List Int32 := if 0 ≤ a then [] else [45]
def amL (a : Int64) (K : Nat) : List Int32 := sgL a ++ (wl (abI a / 100) K ++ [46, dgt (abI a / 10), dgt (abI a)])
theorem abI_c (a : Int64) : (if 0 < a then a else -a) = abI a := by
  unfold abI
  by_cases h : 0 < a
  · rw [if_pos h, if_pos (Int64.le_of_lt h)]
  · by_cases h2 : 0 ≤ a
    · have : a = 0 := le_antisymm64 (Int64.not_lt.mp h) h2
      rw [this]; rfl
    · rw [if_neg h, if_neg h2]
theorem amL_len (a : Int64) (K : Nat) : (amL a K).length ≤ K + 5 := by
  unfold amL sgL
  by_cases h : 0 ≤ a
  · simp [h, wl_len]
  · simp [h, wl_len]
theorem C_label (t : TR S ad) {n i : Nat} (hi : i < 26) (h0 : gI S (ad 14) 1 = nI n) (hn : n + lenS.getD i 0 ≤ 256) (K2 : St → Option St) : lp (κ := Int32 → St → Option (St)) (fun _ _ => none) (fun k15 x13 S14 => tk i <| cl (f_J0_length_8abf5 S14 i) fun (v17 : Int32) => if v17 ≤ x13 then (K2 S14) else (tk i <| cl (f_J0_charAt_5068e S14 i x13) fun (v18 : Int32) => cl (f_X4_addByte S14 (ad 14) v18) fun (S19 : St) => k15 (x13 + 1) S19)) FU 0 S = K2 (pL (ad 15) (ad 14) 1 (bytS.getD i []) S n) := by
  have hl := bytS_len i hi
  have h10 : ∀ i, i < 26 → lenS.getD i 0 ≤ 10 := by decide
  have hl10 := h10 i hi
  generalize hB : bytS.getD i [] = B at hl
  generalize hN : lenS.getD i 0 = N at hl hn hl10
  have hT : ∀ l, l < N → B.take (l + 1) = B.take l ++ [B.getD l 0] := fun l hlN => by
    rw [List.take_add_one, List.getD_eq_getElem?_getD]
    have : l < B.length := by omega
    simp [List.getElem?_eq_getElem this]
  refine (lp_for0 (fun (k : Int32 → St → Option St) l (s : St) => k (nI l) s) _ _ N (by omega) (fun l s => pL (ad 15) (ad 14) 1 [B.getD l 0] s (n + l)) K2 (fun l s => s = pL (ad 15) (ad 14) 1 (B.take l) S n) S (by rw [List.take_zero]; rfl) ?_ ?_ ?_).trans ?_
  · rintro k l s hlN rfl
    have t1 : TR (pL (ad 15) (ad 14) 1 (B.take l) S n) ad := TR_SR0 (SR0_pL _ _ _ _ _ _) t
    have hln : (B.take l).length = l := by rw [List.length_take]; omega
    have c1 : gI (pL (ad 15) (ad 14) 1 (B.take l) S n) (ad 14) 1 = nI (n + l) := by rw [cn_pL (n15_14 t) 1 _ S n h0, hln]
    have h1 : ¬ nI N ≤ nI l := by rw [nI_leI (by omega) (by omega)]; omega
    rw [tk_ok hi, str_len _ hi, hN, cl_n, if_neg h1, tk_ok hi, str_at _ hi (by rw [hN]; exact hlN), hB, cl_n, C_byte t1 c1 (by omega), cl_n, nI_1]
  · rintro l s hlN rfl
    rw [hT l hlN, pL_app]
    have hln : (B.take l).length = l := by rw [List.length_take]; omega
    rw [hln]
  · rintro k s rfl
    have h1 : nI N ≤ nI N := by rw [nI_leI (by omega) (by omega)]; omega
    rw [tk_ok hi, str_len _ hi, hN, cl_n, if_pos h1]
  · have := itr_inv (N := N) (f := fun l s => pL (ad 15) (ad 14) 1 [B.getD l 0] s (n + l)) (fun l s => s = pL (ad 15) (ad 14) 1 (B.take l) S n) (fun l s hlN e => by
      subst e
      have hln : (B.take l).length = l := by rw [List.length_take]; omega
      rw [hT l hlN, pL_app, hln]) N 0 S (by omega) (by rw [List.take_zero]; rfl)
    rw [this, Nat.zero_add, List.take_of_length_le (by omega)]
theorem C_part (t : TR S ad) {n i K : Nat} (hi : i < 26) (h0 : gI S (ad 14) 1 = nI n) (a : Int64) (hK : K ≤ 16) (hlt : ∀ j, j < K → ¬ abI a / 100 / lN (10 ^ j) < 10) (hend : abI a / 100 / lN (10 ^ K) < 10) (hn : n + lenS.getD i 0 + (K + 5) ≤ 256) : f_X4_addPart S (ad 14) i a = some (pL (ad 15) (ad 14) 1 (bytS.getD i [] ++ amL a K) S n) := by
  unfold f_X4_addPart
  rw [jn_n]
  refine (C_label t hi h0 (by omega) _).trans ?_
  rw [pL_app, bytS_len i hi]
  have t1 : TR (pL (ad 15) (ad 14) 1 (bytS.getD i []) S n) ad := TR_SR0 (SR0_pL _ _ _ _ _ _) t
  have c1 : gI (pL (ad 15) (ad 14) 1 (bytS.getD i []) S n) (ad 14) 1 = nI (n + lenS.getD i 0) := by rw [cn_pL (n15_14 t) 1 _ S n h0, bytS_len i hi]
  generalize pL (ad 15) (ad 14) 1 (bytS.getD i []) S n = U at t1 c1 ⊢
  generalize n + lenS.getD i 0 = m at c1 hn ⊢
  refine (jn_n _ _).trans ?_
  have rest : ∀ (V : St) (q : Nat), TR V ad → gI V (ad 14) 1 = nI q → q + (K + 4) ≤ 256 → (lt (if 0 < a then a else -a) fun (v7 : Int64) => cl (f_X4_addWhole V (ad 14) (v7 / 100)) fun (S8 : St) => cl (f_X4_addByte S8 (ad 14) 46) fun (S9 : St) => cl (f_X4_addDigit S9 (ad 14) (v7 / 10)) fun (S10 : St) => cl (f_X4_addDigit S10 (ad 14) v7) fun (S11 : St) => some S11) = some (pL (ad 15) (ad 14) 1 (wl (abI a / 100) K ++ [46, dgt (abI a / 10), dgt (abI a)]) V q) := by
    intro V q tV cV hq
    rw [abI_c, lt_n, C_whole tV cV (abI a / 100) hK hlt hend (by omega), cl_n, pL_app, wl_len]
    have t2 : TR (pL (ad 15) (ad 14) 1 (wl (abI a / 100) K) V q) ad := TR_SR0 (SR0_pL _ _ _ _ _ _) tV
    have c2 : gI (pL (ad 15) (ad 14) 1 (wl (abI a / 100) K) V q) (ad 14) 1 = nI (q + (K + 1)) := by rw [cn_pL (n15_14 t) 1 _ V q cV, wl_len]
    generalize pL (ad 15) (ad 14) 1 (wl (abI a / 100) K) V q = V2 at t2 c2 ⊢
    have t3 : TR (pL (ad 15) (ad 14) 1 [46] V2 (q + (K + 1))) ad := TR_SR0 (SR0_pL _ _ _ _ _ _) t2
    have c3 : gI (pL (ad 15) (ad 14) 1 [46] V2 (q + (K + 1))) (ad 14) 1 = nI (q + (K + 1) + 1) := cn_pL (n15_14 t) 1 [46] V2 (q + (K + 1)) c2
    have t4 : TR (pL (ad 15) (ad 14) 1 [dgt (abI a / 10)] (pL (ad 15) (ad 14) 1 [46] V2 (q + (K + 1))) (q + (K + 1) + 1)) ad := TR_SR0 (SR0_pL _ _ _ _ _ _) t3
    have c4 : gI (pL (ad 15) (ad 14) 1 [dgt (abI a / 10)] (pL (ad 15) (ad 14) 1 [46] V2 (q + (K + 1))) (q + (K + 1) + 1)) (ad 14) 1 = nI (q + (K + 1) + 1 + 1) := cn_pL (n15_14 t) 1 [dgt (abI a / 10)] _ (q + (K + 1) + 1) c3
    rw [C_byte t2 c2 (by omega), cl_n, C_dig t3 c3 (show q + (K + 1) + 1 < 256 by omega), cl_n, C_dig t4 c4 (show q + (K + 1) + 1 + 1 < 256 by omega), cl_n]
    rfl
  by_cases hp : 0 ≤ a
  · rw [if_pos hp]
    refine (rest U m t1 c1 (by omega)).trans ?_
    unfold amL sgL
    rw [if_pos hp]; rfl
  · have t2 : TR (pL (ad 15) (ad 14) 1 [45] U m) ad := TR_SR0 (SR0_pL _ _ _ _ _ _) t1
    rw [if_neg hp, C_byte t1 c1 (by omega), cl_n]
    refine (rest _ (m + 1) t2 (cn_pL (n15_14 t) 1 [45] U m c1) (by omega)).trans ?_
    unfold amL sgL
    rw [if_neg hp]; rfl
/-! the reference's side -/
theorem R_app (t : TR S ad) {n : Nat} (h0 : gI S (ad 1) 7 = nI n) (hn : n < 300) (x : Int32) : f_X12_append S (ad 1) x = some (pL (ad 8) (ad 1) 7 [x] S n) := by
  simp only [f_X12_append, lt_n, h0, r_1_6 t]
  rw [stI_at (by rw [n_8 t]; exact hn) (by rw [n_8 t]; decide), gI_i t.1, if_neg (by omega), h0, nI_1]
  rfl
def rlL (c : Int64) : Nat → List Int32
  | 0 => [dgt (c / lN 100), 46, dgt (c / lN 10), dgt (c / lN 1)]
  | k + 1 => dgt (c / lN (100 * 10 ^ (k + 1))) :: rlL c k
theorem rl_len (c : Int64) : ∀ k, (rlL c k).length = k + 4 := by
  intro k
  induction k with
  | zero => rfl
  | succ k ih => rw [rlL, List.length_cons, ih]
theorem p100 {k : Nat} (hk : k ≤ 16) : 100 * 10 ^ k < 2 ^ 63 ∧ 0 < 100 * 10 ^ k := by
  have : 10 ^ k ≤ 10 ^ 16 := Nat.pow_le_pow_right (by decide) hk
  have p0 : 0 < 10 ^ k := Nat.pow_pos (by decide)
  omega
theorem R_digs (c : Int64) : ∀ (k fuel : Nat) (S : St) (n : Nat), TR S ad → gI S (ad 1) 7 = nI n → n + k + 4 ≤ 300 → k ≤ 16 → k + 4 < fuel → lp (κ := Int64 → St → Option (St)) (fun _ _ => none) (fun k12 x10 S11 => if x10 ≤ 0 then (some S11) else (nzL x10 <| cl (f_X12_append S11 (ad 1) (48 + (Int64.toInt32 ((c / x10) - (c / x10) / 10 * 10)))) fun (S14 : St) => jn (κ := St → Option (St)) (fun S15 => lt (x10 / 10) fun (v18 : Int64) => k12 v18 S15) fun k16 => if x10 = 100 then (cl (f_X12_append S14 (ad 1) 46) fun (S19 : St) => k16 S19) else (k16 S14))) fuel (lN (100 * 10 ^ k)) S = some (pL (ad 8) (ad 1) 7 (rlL c k) S n) := by
  intro k
  induction k with
  | zero =>
    intro fuel S n t h0 hn hk hf
    obtain ⟨q, rfl⟩ : ∃ q, fuel = q + 4 := ⟨fuel - 4, by omega⟩
    have t1 : TR (pL (ad 8) (ad 1) 7 [dgt (c / lN 100)] S n) ad := TR_SR0 (SR0_pL _ _ _ _ _ _) t
    have c1 : gI (pL (ad 8) (ad 1) 7 [dgt (c / lN 100)] S n) (ad 1) 7 = nI (n + 1) := cn_pL (n8_1 t) 7 [dgt (c / lN 100)] S n h0
    have t2 : TR (pL (ad 8) (ad 1) 7 [46] (pL (ad 8) (ad 1) 7 [dgt (c / lN 100)] S n) (n + 1)) ad := TR_SR0 (SR0_pL _ _ _ _ _ _) t1
    have c2 : gI (pL (ad 8) (ad 1) 7 [46] (pL (ad 8) (ad 1) 7 [dgt (c / lN 100)] S n) (n + 1)) (ad 1) 7 = nI (n + 1 + 1) := cn_pL (n8_1 t) 7 [46] _ (n + 1) c1
    have t3 : TR (pL (ad 8) (ad 1) 7 [dgt (c / lN 10)] (pL (ad 8) (ad 1) 7 [46] (pL (ad 8) (ad 1) 7 [dgt (c / lN 100)] S n) (n + 1)) (n + 1 + 1)) ad := TR_SR0 (SR0_pL _ _ _ _ _ _) t2
    have c3 : gI (pL (ad 8) (ad 1) 7 [dgt (c / lN 10)] (pL (ad 8) (ad 1) 7 [46] (pL (ad 8) (ad 1) 7 [dgt (c / lN 100)] S n) (n + 1)) (n + 1 + 1)) (ad 1) 7 = nI (n + 1 + 1 + 1) := cn_pL (n8_1 t) 7 [dgt (c / lN 10)] _ (n + 1 + 1) c2
    have a1 := R_app t h0 (by omega) (dgt (c / lN 100))
    have a2 := R_app t1 c1 (show n + 1 < 300 by omega) 46
    have a3 := R_app t2 c2 (show n + 1 + 1 < 300 by omega) (dgt (c / lN 10))
    have a4 := R_app t3 c3 (show n + 1 + 1 + 1 < 300 by omega) (dgt (c / lN 1))
    simp only [lp]
    rw [show lN (100 * 10 ^ 0) = lN 100 from rfl, if_neg (show ¬ lN 100 ≤ 0 by decide), nzL, if_neg (show ¬ lN 100 = 0 by decide)]
    show (cl (f_X12_append S (ad 1) (dgt (c / lN 100))) _) = _
    rw [a1, cl_n, jn_n, if_pos (show lN 100 = 100 by decide), a2, cl_n]
    refine (lt_n _ _).trans ?_
    rw [show lN 100 / 10 = lN 10 by decide, if_neg (show ¬ lN 10 ≤ 0 by decide), nzL, if_neg (show ¬ lN 10 = 0 by decide)]
    show (cl (f_X12_append _ (ad 1) (dgt (c / lN 10))) _) = _
    rw [a3, cl_n, jn_n, if_neg (show ¬ lN 10 = 100 by decide)]
    refine (lt_n _ _).trans ?_
    rw [show lN 10 / 10 = lN 1 by decide, if_neg (show ¬ lN 1 ≤ 0 by decide), nzL, if_neg (show ¬ lN 1 = 0 by decide)]
    show (cl (f_X12_append _ (ad 1) (dgt (c / lN 1))) _) = _
    rw [a4, cl_n, jn_n, if_neg (show ¬ lN 1 = 100 by decide)]
    refine (lt_n _ _).trans ?_
    rw [show lN 1 / 10 = 0 by decide, if_pos (by decide)]
    rfl
  | succ k ih =>
    intro fuel S n t h0 hn hk hf
    obtain ⟨q, rfl⟩ : ∃ q, fuel = q + 1 := ⟨fuel - 1, by omega⟩
    obtain ⟨p1, p0⟩ := p100 hk
    have e10 : lN (100 * 10 ^ (k + 1)) / 10 = lN (100 * 10 ^ k) := by
      rw [show (10 : Int64) = lN 10 from rfl, pk_lDiv p1 (by decide) (by decide), Nat.pow_succ, ← Nat.mul_assoc, Nat.mul_div_cancel _ (by decide)]
    have n100 : ¬ lN (100 * 10 ^ (k + 1)) = 100 := by
      rw [show (100 : Int64) = lN 100 from rfl, pk_lEQ p1 (by decide), Nat.pow_succ]
      have : 0 < 10 ^ k := Nat.pow_pos (by decide)
      omega
    have t1 : TR (pL (ad 8) (ad 1) 7 [dgt (c / lN (100 * 10 ^ (k + 1)))] S n) ad := TR_SR0 (SR0_pL _ _ _ _ _ _) t
    have a1 := R_app t h0 (by omega) (dgt (c / lN (100 * 10 ^ (k + 1))))
    simp only [lp]
    rw [if_neg (lN_le0 p1 p0), nzL, if_neg (lN_ne0 p1 p0)]
    show (cl (f_X12_append S (ad 1) (dgt (c / lN (100 * 10 ^ (k + 1))))) _) = _
    rw [a1, cl_n, jn_n, if_neg n100]
    refine (lt_n _ _).trans ?_
    rw [e10]
    rw [ih q _ (n + 1) t1 (cn_pL (n8_1 t) 7 _ S n h0) (by omega) (by omega) (by omega)]
    rfl
theorem R_amount (t : TR S ad) {n K : Nat} (h0 : gI S (ad 1) 7 = nI n) (a : Int64) (hK : K ≤ 16) (hlt : ∀ j, j < K → ¬ abI a / lN (100 * 10 ^ j) ≤ 9) (hend : abI a / lN (100 * 10 ^ K) ≤ 9) (hn : n + K + 5 ≤ 300) : f_X12_appendAmount S (ad 1) a = some (pL (ad 8) (ad 1) 7 (sgL a ++ rlL (abI a) K) S n) := by
  unfold f_X12_appendAmount
  refine (jn_n _ _).trans ?_
  have rest : ∀ (V : St) (q : Nat), TR V ad → gI V (ad 1) 7 = nI q → q + K + 4 ≤ 300 → (jn (κ := Int64 → Option (St)) (fun x4 => jn (κ := Int64 → Option (St)) (fun x7 => lp (κ := Int64 → St → Option (St)) (fun _ _ => none) (fun k12 x10 S11 => if x10 ≤ 0 then (some S11) else (nzL x10 <| cl (f_X12_append S11 (ad 1) (48 + (Int64.toInt32 ((x4 / x10) - (x4 / x10) / 10 * 10)))) fun (S14 : St) => jn (κ := St → Option (St)) (fun S15 => lt (x10 / 10) fun (v18 : Int64) => k12 v18 S15) fun k16 => if x10 = 100 then (cl (f_X12_append S14 (ad 1) 46) fun (S19 : St) => k16 S19) else (k16 S14))) FU x7 V) fun k8 => lp (κ := Int64 → Option (St)) (fun _ => none) (fun k21 x20 => nzL x20 <| if (x4 / x20) ≤ 9 then (k8 x20) else (lt (x20 * 10) fun (v23 : Int64) => k21 v23)) FU 100) fun k5 => if 0 ≤ a then (k5 a) else (k5 (-a))) = some (pL (ad 8) (ad 1) 7 (rlL (abI a) K) V q) := by
    intro V q tV cV hq
    refine (jn_n _ _).trans ?_
    have inner : ∀ c, c = abI a → (jn (κ := Int64 → Option (St)) (fun x7 => lp (κ := Int64 → St → Option (St)) (fun _ _ => none) (fun k12 x10 S11 => if x10 ≤ 0 then (some S11) else (nzL x10 <| cl (f_X12_append S11 (ad 1) (48 + (Int64.toInt32 ((c / x10) - (c / x10) / 10 * 10)))) fun (S14 : St) => jn (κ := St → Option (St)) (fun S15 => lt (x10 / 10) fun (v18 : Int64) => k12 v18 S15) fun k16 => if x10 = 100 then (cl (f_X12_append S14 (ad 1) 46) fun (S19 : St) => k16 S19) else (k16 S14))) FU x7 V) fun k8 => lp (κ := Int64 → Option (St)) (fun _ => none) (fun k21 x20 => nzL x20 <| if (c / x20) ≤ 9 then (k8 x20) else (lt (x20 * 10) fun (v23 : Int64) => k21 v23)) FU 100) = some (pL (ad 8) (ad 1) 7 (rlL (abI a) K) V q) := by
      rintro c rfl
      refine (jn_n _ _).trans ?_
      have key : ∀ (G : Int64 → Option St) m fuel i, i + m = K → m < fuel → lp (κ := Int64 → Option (St)) (fun _ => none) (fun k21 x20 => nzL x20 <| if (abI a / x20) ≤ 9 then (G x20) else (lt (x20 * 10) fun (v23 : Int64) => k21 v23)) fuel (lN (100 * 10 ^ i)) = G (lN (100 * 10 ^ K)) := by
        intro G m
        induction m with
        | zero =>
          intro fuel i hi hf
          obtain ⟨q, rfl⟩ : ∃ q, fuel = q + 1 := ⟨fuel - 1, by omega⟩
          have e : i = K := by omega
          subst e
          obtain ⟨p1, p0⟩ := p100 hK
          simp only [lp]
          rw [nzL, if_neg (lN_ne0 p1 p0), if_pos hend]
        | succ m ih =>
          intro fuel i hi hf
          obtain ⟨q, rfl⟩ : ∃ q, fuel = q + 1 := ⟨fuel - 1, by omega⟩
          obtain ⟨p1, p0⟩ := p100 (k := i) (by omega)
          have e10 : lN (100 * 10 ^ i) * 10 = lN (100 * 10 ^ (i + 1)) := by rw [show (10 : Int64) = lN 10 from rfl, lN_mul, Nat.pow_succ, Nat.mul_assoc]
          simp only [lp]
          rw [nzL, if_neg (lN_ne0 p1 p0), if_neg (hlt i (by omega)), lt_n, e10]
          exact ih q (i + 1) (by omega) (by omega)
      refine (key _ K FU 0 (by omega) (show K < 6000 by omega)).trans ?_
      exact R_digs (abI a) K FU V q tV cV (by omega) hK (show K + 4 < 6000 by omega)
    by_cases hp : 0 ≤ a
    · rw [if_pos hp]
      exact inner a (by unfold abI; rw [if_pos hp])
    · rw [if_neg hp]
      exact inner (-a) (by unfold abI; rw [if_neg hp])
  by_cases hp : 0 ≤ a
  · rw [if_pos hp]
    refine (rest S n t h0 (by omega)).trans ?_
    unfold sgL
    rw [if_pos hp]; rfl
  · have t2 : TR (pL (ad 8) (ad 1) 7 [45] S n) ad := TR_SR0 (SR0_pL _ _ _ _ _ _) t
    rw [if_neg hp, R_app t h0 (by omega), cl_n]
    refine (rest _ (n + 1) t2 (cn_pL (n8_1 t) 7 [45] S n h0) (by omega)).trans ?_
    unfold sgL
    rw [if_neg hp]; rfl
