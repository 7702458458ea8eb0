/-! the pure part: the reference's advance, all of it -/
variable {S S0 S1 S2 S' S'' S3 X Y : St} {ad : Nat → Nat} {b d j k : Nat} {v v0 v' v1 v2 u w : Nat → Int64} {np nf no mo no' mo' x y : Nat}
theorem M_amE {M : Nat → Int32} {x : Int64} {k r s : Nat} (h13 : M 13 = nI k) (hk : k ≤ 4) (h10 : M 10 = nI r) (h14 : M 14 = nI s) (hs : s ≤ r) (hr : r ≤ 1500) : amE (ad 1) (rfS S ad M x) = some (rfS S ad (if (k = 1 ∧ 10 < r - s) ∨ (k = 2 ∧ 6 < r - s) then udt M 13 4 else M) x) := by
  unfold amE
  have e1 : (nI k = 1) = (k = 1) := propext (nI3 (by omega) (z := 1) (by omega))
  have e2 : (nI k = 2) = (k = 2) := propext (nI3 (by omega) (z := 2) (by omega))
  have l10 : (10 < nI (r - s)) = (10 < r - s) := propext (nI_ltI (a := 10) (by omega) (by omega))
  have l6 : (nI (r - s) ≤ 6) = (r - s ≤ 6) := propext (nI_leI (b := 6) (by omega) (by omega))
  simp only [lt_n, rfS_I, h13, h10, h14, jn_n, rfS_u, nI_sub hs, e1, e2, l10, l6]
  by_cases k1 : k = 1
  · have k2 : ¬ k = 2 := by omega
    simp only [k1, if_true]
    by_cases hl : 10 < r - s
    · rw [if_pos hl, if_pos (Or.inl ⟨trivial, hl⟩)]
    · rw [if_neg hl, if_neg (by omega), if_neg (by omega)]
  · rw [if_neg k1]
    by_cases k2 : k = 2
    · rw [if_pos k2]
      by_cases hl : r - s ≤ 6
      · rw [if_pos hl, if_neg (by omega)]
      · rw [if_neg hl, if_pos (Or.inr ⟨k2, by omega⟩)]
    · rw [if_neg k2, if_neg (by omega)]
theorem M_amD0 {M : Nat → Int32} {x : Int64} {k : Nat} (h13 : M 13 = nI k) (hk : k ≤ 4) (hk2 : k ≠ 2) : amD (ad 1) (rfS S ad M x) = amE (ad 1) (rfS S ad M x) := by
  unfold amD
  refine (jn_n _ _).trans ?_
  obtain ⟨F, hF⟩ := FU_s
  have e2 : (nI k = 2) = (k = 2) := propext (nI3 (by omega) (z := 2) (by omega))
  rw [hF, lp_s]
  simp only [lt_n, rfS_I, h13, e2, hk2, if_false]
theorem M_amC0 {M : Nat → Int32} {x : Int64} {k : Nat} (h13 : M 13 = nI k) (hk : k ≤ 4) (hk1 : k ≠ 1) : amC (ad 1) (rfS S ad M x) = amD (ad 1) (rfS S ad M x) := by
  unfold amC
  refine (jn_n _ _).trans ?_
  obtain ⟨F, hF⟩ := FU_s
  have e1 : (nI k = 1) = (k = 1) := propext (nI3 (by omega) (z := 1) (by omega))
  rw [hF, lp_s]
  simp only [lt_n, rfS_I, h13, e1, hk1, if_false]
theorem M_amD2 {B : Nat → Int32} {n s : Nat} {M : Nat → Int32} (h : MB S ad B n) (h9 : M 9 = nI n) (h13 : M 13 = 2) (h14 : M 14 = nI s) (h10 : M 10 = nI s) (hs : s ≤ n) : amD (ad 1) (rfS S ad M 0) = amE (ad 1) (rfS S ad (udt M 10 (nI (run B n 2 s))) (dgd (fun i => B (s + i)) (min (run B n 2 s - s) 6))) := by
  have hn := h.2.1
  unfold amD
  refine (jn_n _ _).trans ?_
  have st0 : rfS S ad M 0 = (fun e => rfS S ad (udt M 10 (nI e)) (dgd (fun i => B (s + i)) (min (e - s) 6))) s := by
    show _ = rfS S ad (udt M 10 (nI s)) (dgd (fun i => B (s + i)) (min (s - s) 6))
    rw [udt_id h10, Nat.sub_self]; rfl
  rw [st0]
  refine (lp_run B n 2 (by decide) (fun e => rfS S ad (udt M 10 (nI e)) (dgd (fun i => B (s + i)) (min (e - s) 6))) _ _ (amE (ad 1)) s ?_ ?_ (n - s) FU s (Nat.le_refl _) (by omega) (show n - s < 6000 by omega)).trans rfl
  · intro k e he1 he hne
    have f9 : udt M 10 (nI e) 9 = nI n := by rw [udt_n (by decide), h9]
    have f13 : udt M 10 (nI e) 13 = 2 := by rw [udt_n (by decide), h13]
    have f10 : udt M 10 (nI e) 10 = nI e := udt_e _ _ _
    obtain ⟨-, -, -, u4, -⟩ := ub_k (B := B) (n := n) (i := e) (fun i hi => (h.2.2 i hi).2)
    simp only [lt_n, rfS_I, f13, f10, if_true, M_byteU h f9 (show e ≤ 1500 by omega), cl_n, u4, hne, decide_false, bI_f]
  · intro k e he1 he hke
    have f9 : udt M 10 (nI e) 9 = nI n := by rw [udt_n (by decide), h9]
    have f13 : udt M 10 (nI e) 13 = 2 := by rw [udt_n (by decide), h13]
    have f14 : udt M 10 (nI e) 14 = nI s := by rw [udt_n (by decide), h14]
    have f10 : udt M 10 (nI e) 10 = nI e := udt_e _ _ _
    obtain ⟨-, -, -, u4, -⟩ := ub_k (B := B) (n := n) (i := e) (fun i hi => (h.2.2 i hi).2)
    simp only [ub_d hke] at u4
    have l6 : (6 ≤ nI (e - s)) = (6 ≤ e - s) := propext (nI_leI (a := 6) (by omega) (by omega))
    simp only [lt_n, rfS_I, f13, f10, f14, if_true, M_byteU h f9 (show e ≤ 1500 by omega), cl_n, u4, hke, decide_true, bI_t, i10, if_false, nI_sub he1, l6, jn_n, rfS_J, rfS_v, rfS_u, udt_udt, nI_1, ub_d hke]
    by_cases hl : 6 ≤ e - s
    · rw [if_pos hl, show min (e + 1 - s) 6 = min (e - s) 6 by omega]
    · rw [if_neg hl, show min (e + 1 - s) 6 = min (e - s) 6 + 1 by omega, dgd, show s + min (e - s) 6 = e by omega]
theorem M_amC1 {B : Nat → Int32} {n s : Nat} {M : Nat → Int32} (h : MB S ad B n) (h9 : M 9 = nI n) (h13 : M 13 = 1) (h14 : M 14 = nI s) (h10 : M 10 = nI s) (hs : s ≤ n) : amC (ad 1) (rfS S ad M 0) = amD (ad 1) (rfS S ad (udt M 10 (nI (run B n 1 s))) (pkd (fun i => B (s + i)) (min (run B n 1 s - s) 10))) := by
  have hn := h.2.1
  unfold amC
  refine (jn_n _ _).trans ?_
  have st0 : rfS S ad M 0 = (fun e => rfS S ad (udt M 10 (nI e)) (pkd (fun i => B (s + i)) (min (e - s) 10))) s := by
    show _ = rfS S ad (udt M 10 (nI s)) (pkd (fun i => B (s + i)) (min (s - s) 10))
    rw [udt_id h10, Nat.sub_self]; rfl
  rw [st0]
  refine (lp_run B n 1 (by decide) (fun e => rfS S ad (udt M 10 (nI e)) (pkd (fun i => B (s + i)) (min (e - s) 10))) _ _ (amD (ad 1)) s ?_ ?_ (n - s) FU s (Nat.le_refl _) (by omega) (show n - s < 6000 by omega)).trans rfl
  · intro k e he1 he hne
    have f9 : udt M 10 (nI e) 9 = nI n := by rw [udt_n (by decide), h9]
    have f13 : udt M 10 (nI e) 13 = 1 := by rw [udt_n (by decide), h13]
    have f10 : udt M 10 (nI e) 10 = nI e := udt_e _ _ _
    obtain ⟨-, -, u3, -, -⟩ := ub_k (B := B) (n := n) (i := e) (fun i hi => (h.2.2 i hi).2)
    simp only [lt_n, rfS_I, f13, f10, if_true, M_byteU h f9 (show e ≤ 1500 by omega), cl_n, u3, hne, decide_false, bI_f]
  · intro k e he1 he hke
    have f9 : udt M 10 (nI e) 9 = nI n := by rw [udt_n (by decide), h9]
    have f13 : udt M 10 (nI e) 13 = 1 := by rw [udt_n (by decide), h13]
    have f14 : udt M 10 (nI e) 14 = nI s := by rw [udt_n (by decide), h14]
    have f10 : udt M 10 (nI e) 10 = nI e := udt_e _ _ _
    obtain ⟨-, -, u3, -, -⟩ := ub_k (B := B) (n := n) (i := e) (fun i hi => (h.2.2 i hi).2)
    simp only [ub_l hke] at u3
    have l10 : (10 ≤ nI (e - s)) = (10 ≤ e - s) := propext (nI_leI (a := 10) (by omega) (by omega))
    simp only [lt_n, rfS_I, f13, f10, f14, if_true, M_byteU h f9 (show e ≤ 1500 by omega), cl_n, u3, hke, decide_true, bI_t, i10, if_false, nI_sub he1, l10, jn_n, rfS_J, rfS_v, rfS_u, udt_udt, nI_1, ub_l hke]
    by_cases hl : 10 ≤ e - s
    · rw [if_pos hl, show min (e + 1 - s) 10 = min (e - s) 10 by omega]
    · rw [if_neg hl, show min (e + 1 - s) 10 = min (e - s) 10 + 1 by omega, pkd, show s + min (e - s) 10 = e by omega]
/-- the reference's kind of a token -/
def km (k : Nat) : Nat := if k = 5 then 4 else k
/-- what the reference's advance does to its fields -/
def MA (B : Nat → Int32) (n e : Nat) (M M' : Nat → Int32) (x' : Int64) : Prop := (∀ i, i ≠ 10 → i ≠ 13 → i ≠ 14 → M' i = M i) ∧ M' 14 = nI (tkS B n e) ∧ M' 13 = nI (km (tkK B n e)) ∧ (tkK B n e ≠ 5 → M' 10 = nI (tkR B n e)) ∧ (tkK B n e = 1 → x' = pkd (fun i => B (tkS B n e + i)) (tkR B n e - tkS B n e)) ∧ (tkK B n e = 2 → x' = dgd (fun i => B (tkS B n e + i)) (tkR B n e - tkS B n e))
/-- behind the choice of the kind -/
theorem M_amB {B : Nat → Int32} {n s k0 : Nat} {M : Nat → Int32} (h : MB S ad B n) (h9 : M 9 = nI n) (h14 : M 14 = nI s) (h10 : M 10 = nI s) (hs : s ≤ n) (hk : k0 = kc B n s) (hk4 : k0 ≠ 4) : ∃ M' x', amB (ad 1) (rfS S ad M 0) (nI (km k0)) = some (rfS S ad M' x') ∧ (∀ i, i ≠ 10 → i ≠ 13 → i ≠ 14 → M' i = M i) ∧ M' 14 = nI s ∧ M' 13 = nI (km (if (k0 = 1 ∧ 10 < rnE B n k0 s - s) ∨ (k0 = 2 ∧ 6 < rnE B n k0 s - s) then 5 else k0)) ∧ (k0 ≠ 5 → M' 10 = nI (rnE B n k0 s)) ∧ (k0 = 1 → rnE B n k0 s - s ≤ 10 → x' = pkd (fun i => B (s + i)) (rnE B n k0 s - s)) ∧ (k0 = 2 → rnE B n k0 s - s ≤ 6 → x' = dgd (fun i => B (s + i)) (rnE B n k0 s - s)) := by
  have hn := h.2.1
  have hk5 : k0 ≤ 5 := by rw [hk]; exact kc_le B n s
  have km4 : km k0 ≤ 4 := by unfold km; by_cases z : k0 = 5 <;> simp only [z, if_true, if_false] <;> omega
  have e3 : (nI (km k0) = 3) = (km k0 = 3) := propext (nI3 (by omega) (z := 3) (by omega))
  have e4 : (nI (km k0) = 4) = (km k0 = 4) := propext (nI3 (by omega) (z := 4) (by omega))
  have f13 : udt M 13 (nI (km k0)) 13 = nI (km k0) := udt_e _ _ _
  have f10 : udt M 13 (nI (km k0)) 10 = nI s := by rw [udt_n (by decide), h10]
  have f9 : udt M 13 (nI (km k0)) 9 = nI n := by rw [udt_n (by decide), h9]
  have f14 : udt M 13 (nI (km k0)) 14 = nI s := by rw [udt_n (by decide), h14]
  unfold amB
  simp only [lt_n, rfS_u, rfS_I, f13, jn_n, e3, e4, f10, nI_1]
  by_cases k1 : k0 = 1
  · have hin : s < n := kc_in (B := B) (by rw [← hk, k1]; decide)
    obtain ⟨r1, r2, r3, r4⟩ := run_f (B := B) (n := n) (kd := 1) (by decide) (n - s) s (by omega)
    have eR : rnE B n k0 s = run B n 1 s := by rw [rnE, if_pos (Or.inl k1), k1]
    have ek : km k0 = 1 := by rw [k1]; rfl
    rw [ek, if_neg (by decide), if_neg (by decide)]
    have d13 : udt M 13 (nI 1) 13 = 1 := udt_e _ _ _
    rw [M_amC1 h (by rw [udt_n (by decide), h9]) d13 (by rw [udt_n (by decide), h14]) (by rw [udt_n (by decide), h10]) hs, M_amD0 (k := 1) (by rw [udt_n (by decide)]; exact d13) (by decide) (by decide), M_amE (k := 1) (by rw [udt_n (by decide)]; exact d13) (by decide) (udt_e _ _ _) (by rw [udt_n (by decide), udt_n (by decide), h14]) r1 (by omega)]
    refine ⟨_, _, rfl, fun i a1 a2 a3 => ?_, ?_, ?_, fun _ => ?_, fun _ hl => ?_, fun z => absurd z (by omega)⟩
    · by_cases hl : (1 = 1 ∧ 10 < run B n 1 s - s) ∨ (1 = 2 ∧ 6 < run B n 1 s - s)
      · rw [if_pos hl, udt_n a2, udt_n a1, udt_n a2]
      · rw [if_neg hl, udt_n a1, udt_n a2]
    · by_cases hl : (1 = 1 ∧ 10 < run B n 1 s - s) ∨ (1 = 2 ∧ 6 < run B n 1 s - s)
      · rw [if_pos hl, udt_n (by decide), udt_n (by decide), udt_n (by decide), h14]
      · rw [if_neg hl, udt_n (by decide), udt_n (by decide), h14]
    · rw [eR, k1]
      by_cases hl : (1 = 1 ∧ 10 < run B n 1 s - s) ∨ (1 = 2 ∧ 6 < run B n 1 s - s)
      · rw [if_pos hl, if_pos hl, udt_e]; rfl
      · rw [if_neg hl, if_neg hl, udt_n (by decide)]; exact d13
    · rw [eR]
      by_cases hl : (1 = 1 ∧ 10 < run B n 1 s - s) ∨ (1 = 2 ∧ 6 < run B n 1 s - s)
      · rw [if_pos hl, udt_n (by decide), udt_e]
      · rw [if_neg hl, udt_e]
    · rw [eR] at hl ⊢
      rw [show min (run B n 1 s - s) 10 = run B n 1 s - s by omega]
  · by_cases k2 : k0 = 2
    · have hin : s < n := kc_in (B := B) (by rw [← hk, k2]; decide)
      obtain ⟨r1, r2, r3, r4⟩ := run_f (B := B) (n := n) (kd := 2) (by decide) (n - s) s (by omega)
      have eR : rnE B n k0 s = run B n 2 s := by rw [rnE, if_pos (Or.inr k2), k2]
      have ek : km k0 = 2 := by rw [k2]; rfl
      rw [ek, if_neg (by decide), if_neg (by decide)]
      have d13 : udt M 13 (nI 2) 13 = 2 := udt_e _ _ _
      rw [M_amC0 (k := 2) d13 (by decide) (by decide), M_amD2 h (by rw [udt_n (by decide), h9]) d13 (by rw [udt_n (by decide), h14]) (by rw [udt_n (by decide), h10]) hs, M_amE (k := 2) (by rw [udt_n (by decide)]; exact d13) (by decide) (udt_e _ _ _) (by rw [udt_n (by decide), udt_n (by decide), h14]) r1 (by omega)]
      refine ⟨_, _, rfl, fun i a1 a2 a3 => ?_, ?_, ?_, fun _ => ?_, fun z => absurd z k1, fun _ hl => ?_⟩
      · by_cases hl : (2 = 1 ∧ 10 < run B n 2 s - s) ∨ (2 = 2 ∧ 6 < run B n 2 s - s)
        · rw [if_pos hl, udt_n a2, udt_n a1, udt_n a2]
        · rw [if_neg hl, udt_n a1, udt_n a2]
      · by_cases hl : (2 = 1 ∧ 10 < run B n 2 s - s) ∨ (2 = 2 ∧ 6 < run B n 2 s - s)
        · rw [if_pos hl, udt_n (by decide), udt_n (by decide), udt_n (by decide), h14]
        · rw [if_neg hl, udt_n (by decide), udt_n (by decide), h14]
      · rw [eR, k2]
        by_cases hl : (2 = 1 ∧ 10 < run B n 2 s - s) ∨ (2 = 2 ∧ 6 < run B n 2 s - s)
        · rw [if_pos hl, if_pos hl, udt_e]; rfl
        · rw [if_neg hl, if_neg hl, udt_n (by decide)]; exact d13
      · rw [eR]
        by_cases hl : (2 = 1 ∧ 10 < run B n 2 s - s) ∨ (2 = 2 ∧ 6 < run B n 2 s - s)
        · rw [if_pos hl, udt_n (by decide), udt_e]
        · rw [if_neg hl, udt_e]
      · rw [eR] at hl ⊢
        rw [show min (run B n 2 s - s) 6 = run B n 2 s - s by omega]
    · have hr : ¬ (k0 = 1 ∨ k0 = 2) := by omega
      have nl : ¬ ((k0 = 1 ∧ 10 < rnE B n k0 s - s) ∨ (k0 = 2 ∧ 6 < rnE B n k0 s - s)) := by omega
      have kk1 : km k0 ≠ 1 := by unfold km; by_cases z : k0 = 5 <;> simp only [z, if_true, if_false] <;> omega
      have kk2 : km k0 ≠ 2 := by unfold km; by_cases z : k0 = 5 <;> simp only [z, if_true, if_false] <;> omega
      have fin : ∀ (r : Nat) (M' : Nat → Int32), M' 13 = nI (km k0) → M' 10 = nI r → M' 14 = nI s → s ≤ r → r ≤ 1501 → amC (ad 1) (rfS S ad M' 0) = some (rfS S ad M' 0) := by
        intro r M' a1 a2 a3 a4 a5
        rw [M_amC0 a1 km4 kk1, M_amD0 a1 km4 kk2]
        unfold amE
        have g1 : (nI (km k0) = 1) = False := eq_false (fun z => kk1 ((nI3 (by omega) (z := 1) (by omega)).mp z))
        have g2 : (nI (km k0) = 2) = False := eq_false (fun z => kk2 ((nI3 (by omega) (z := 2) (by omega)).mp z))
        simp only [lt_n, rfS_I, a1, jn_n, g1, g2, if_false]
      rw [if_neg nl]
      by_cases z3 : km k0 = 3 ∨ km k0 = 4
      · have hL : (if km k0 = 3 then amC (ad 1) (rfS S ad (udt (udt M 13 (nI (km k0))) 10 (nI (s + 1))) 0) else if km k0 = 4 then amC (ad 1) (rfS S ad (udt (udt M 13 (nI (km k0))) 10 (nI (s + 1))) 0) else amC (ad 1) (rfS S ad (udt M 13 (nI (km k0))) 0)) = amC (ad 1) (rfS S ad (udt (udt M 13 (nI (km k0))) 10 (nI (s + 1))) 0) := by
          by_cases w3 : km k0 = 3
          · rw [if_pos w3]
          · rw [if_neg w3, if_pos (z3.elim (fun q => absurd q w3) id)]
        refine ⟨udt (udt M 13 (nI (km k0))) 10 (nI (s + 1)), 0, hL.trans (fin (s + 1) _ (by rw [udt_n (by decide), f13]) (udt_e _ _ _) (by rw [udt_n (by decide), f14]) (by omega) (by omega)), fun i a1 a2 a3 => by rw [udt_n a1, udt_n a2], by rw [udt_n (by decide), f14], by rw [udt_n (by decide), f13], fun hz => ?_, fun z => absurd z k1, fun z => absurd z k2⟩
        have : k0 = 3 := by unfold km at z3; rw [if_neg hz] at z3; omega
        rw [udt_e, rnE, if_neg hr, if_pos this]
      · have hL : (if km k0 = 3 then amC (ad 1) (rfS S ad (udt (udt M 13 (nI (km k0))) 10 (nI (s + 1))) 0) else if km k0 = 4 then amC (ad 1) (rfS S ad (udt (udt M 13 (nI (km k0))) 10 (nI (s + 1))) 0) else amC (ad 1) (rfS S ad (udt M 13 (nI (km k0))) 0)) = amC (ad 1) (rfS S ad (udt M 13 (nI (km k0))) 0) := by
          rw [if_neg (fun q => z3 (Or.inl q)), if_neg (fun q => z3 (Or.inr q))]
        refine ⟨udt M 13 (nI (km k0)), 0, hL.trans (fin s _ f13 f10 f14 (by omega) (by omega)), fun i a1 a2 a3 => by rw [udt_n a2], f14, f13, fun hz => ?_, fun z => absurd z k1, fun z => absurd z k2⟩
        have : ¬ k0 = 3 := fun q => z3 (Or.inl (by rw [q]; rfl))
        rw [f10, rnE, if_neg hr, if_neg this]
theorem M_adv {B : Nat → Int32} {n e : Nat} {M : Nat → Int32} {x : Int64} (h : MB S ad B n) (h9 : M 9 = nI n) (h10 : M 10 = nI e) (he : e ≤ n) : ∃ M' x', f_X12_advance (rfS S ad M x) (ad 1) = some (rfS S ad M' x') ∧ MA B n e M M' x' := by
  have hn := h.2.1
  obtain ⟨s1, s2, s3⟩ := tkS_f (B := B) he
  have k5 : tk0 B n e ≤ 5 := kc_le B n _
  obtain ⟨M', x', q1, q2, q3, q4, q5, q6, q7⟩ := M_amB (k0 := tk0 B n e) (s := tkS B n e) (M := udt (udt M 10 (nI (tkS B n e))) 14 (nI (tkS B n e))) h (by rw [udt_n (by decide), udt_n (by decide), h9]) (udt_e _ _ _) (by rw [udt_n (by decide), udt_e]) s2 rfl s3
  refine ⟨M', x', ?_, fun i a1 a2 a3 => (q2 i a1 a2 a3).trans (by rw [udt_n a3, udt_n a1]), q3, q4, fun hz => q5 (fun z => hz ?_), fun hz => ?_, fun hz => ?_⟩
  · rw [amX]
    refine (jn_n _ _).trans ?_
    have st0 : rfS S ad M x = (fun e => rfS S ad (udt M 10 (nI e)) x) e := by
      show _ = rfS S ad (udt M 10 (nI e)) x
      rw [udt_id h10]
    rw [st0]
    refine (lp_run B n 4 (by decide) (fun e => rfS S ad (udt M 10 (nI e)) x) _ _ (amA (ad 1)) e ?_ ?_ (n - e) FU e (Nat.le_refl _) (by omega) (show n - e < 6000 by omega)).trans ?_
    · intro k e' he1 he' hne
      have f9 : udt M 10 (nI e') 9 = nI n := by rw [udt_n (by decide), h9]
      have f10 : udt M 10 (nI e') 10 = nI e' := udt_e _ _ _
      obtain ⟨-, u2, -, -, -⟩ := ub_k (B := B) (n := n) (i := e') (fun i hi => (h.2.2 i hi).2)
      have n32 : ¬ ub B n e' = 32 := fun z => hne (u2.mp (Or.inl z))
      have n10 : ¬ ub B n e' = 10 := fun z => hne (u2.mp (Or.inr z))
      simp only [lt_n, rfS_I, f10, M_byteU h f9 (show e' ≤ 1500 by omega), cl_n, jn_n, n32, n10, if_false]
    · intro k e' he1 he' hke
      have f9 : udt M 10 (nI e') 9 = nI n := by rw [udt_n (by decide), h9]
      have f10 : udt M 10 (nI e') 10 = nI e' := udt_e _ _ _
      obtain ⟨-, u2, -, -, -⟩ := ub_k (B := B) (n := n) (i := e') (fun i hi => (h.2.2 i hi).2)
      have hu := u2.mpr hke
      simp only [lt_n, rfS_I, f10, M_byteU h f9 (show e' ≤ 1500 by omega), cl_n, jn_n, rfS_u, udt_udt, nI_1]
      by_cases z : ub B n e' = 32
      · rw [if_pos z]
      · rw [if_neg z, if_pos (hu.elim (fun q => absurd q z) id)]
    · show amA (ad 1) (rfS S ad (udt M 10 (nI (tkS B n e))) x) = _
      have f10 : udt M 10 (nI (tkS B n e)) 10 = nI (tkS B n e) := udt_e _ _ _
      have f14 : udt (udt M 10 (nI (tkS B n e))) 14 (nI (tkS B n e)) 14 = nI (tkS B n e) := udt_e _ _ _
      have f9 : udt (udt M 10 (nI (tkS B n e))) 14 (nI (tkS B n e)) 9 = nI n := by rw [udt_n (by decide), udt_n (by decide), h9]
      obtain ⟨u1, u2, u3, u4, u5⟩ := ub_k (B := B) (n := n) (i := tkS B n e) (fun i hi => (h.2.2 i hi).2)
      unfold amA
      simp only [lt_n, rfS_I, f10, rfS_u, rfS_v, f14, M_byteU h f9 (show tkS B n e ≤ 1500 by omega), cl_n, jn_n, u3, u4, if_bI]
      rw [← q1]
      have hk : kc B n (tkS B n e) = tk0 B n e := rfl
      rw [hk] at u1 u5 s3 ⊢
      by_cases z0 : tk0 B n e = 0
      · rw [if_pos (u1.mpr z0), z0]; rfl
      · rw [if_neg (fun q => z0 (u1.mp q))]
        by_cases z1 : tk0 B n e = 1
        · rw [decide_eq_true z1, if_pos rfl, z1]; rfl
        · rw [decide_eq_false z1, if_neg (by decide)]
          by_cases z2 : tk0 B n e = 2
          · rw [decide_eq_true z2, if_pos rfl, z2]; rfl
          · rw [decide_eq_false z2, if_neg (by decide)]
            by_cases z3 : tk0 B n e = 3
            · rw [if_pos (u5.mpr z3), z3]; rfl
            · rw [if_neg (fun q => z3 (u5.mp q)), show tk0 B n e = 5 by omega]; rfl
  · unfold tkK
    rw [if_neg (by omega)]; exact z
  · have z1 : tk0 B n e = 1 ∧ tkR B n e - tkS B n e ≤ 10 := by
      unfold tkK at hz
      by_cases w : (tk0 B n e = 1 ∧ 10 < tkR B n e - tkS B n e) ∨ (tk0 B n e = 2 ∧ 6 < tkR B n e - tkS B n e)
      · rw [if_pos w] at hz; omega
      · rw [if_neg w] at hz; omega
    exact q6 z1.1 z1.2
  · have z1 : tk0 B n e = 2 ∧ tkR B n e - tkS B n e ≤ 6 := by
      unfold tkK at hz
      by_cases w : (tk0 B n e = 1 ∧ 10 < tkR B n e - tkS B n e) ∨ (tk0 B n e = 2 ∧ 6 < tkR B n e - tkS B n e)
      · rw [if_pos w] at hz; omega
      · rw [if_neg w] at hz; omega
    exact q7 z1.1 z1.2
