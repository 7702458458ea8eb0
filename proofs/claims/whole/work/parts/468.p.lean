/-! the pure part: the ledger's advance -/
variable {S S0 S1 S2 S' S'' S3 X Y : St} {ad : Nat → Nat} {b d j k : Nat} {v v0 v' v1 v2 u w : Nat → Int64} {np nf no mo no' mo' x y : Nat}
def avC (p0 : Nat) (x11 : Int32) (S14 : St) : Option St := lt (gI S14 p0 2) fun (v17 : Int32) => if v17 = 3 then (lt (gI S14 p0 4) fun (v25 : Int32) => lt (uI S14 p0 4 (v25 + 1)) fun (S26 : St) => some S26) else (if x11 = 0 then (some S14) else (lt (gI S14 p0 4) fun (v18 : Int32) => lt (gI S14 p0 3) fun (v19 : Int32) => lt (gI S14 p0 2) fun (v20 : Int32) => jn (κ := Int32 → Option (St)) (fun x21 => if (v18 - v19) ≤ x21 then (some S14) else (lt (uI S14 p0 2 5) fun (S24 : St) => some S24)) fun k22 => if v20 = 1 then (k22 10) else (k22 6)))
def avB (p0 : Nat) (S9 : St) (x11 : Int32) : Option St := jn (κ := St → Option (St)) (avC p0 x11) fun k15 => lp (κ := St → Option (St)) (fun _ => none) (fun k28 S27 => if x11 = 0 then (k15 S27) else (lt (gI S27 p0 4) fun (v30 : Int32) => lt (gI S27 p0 1) fun (v31 : Int32) => if v31 ≤ v30 then (k15 S27) else (lt (gI S27 p0 4) fun (v32 : Int32) => cl (f_X9_kindAt S27 p0 v32) fun (v33 : Int32) => lt (gI S27 p0 2) fun (v34 : Int32) => if v33 = v34 then (lt (gI S27 p0 7) fun (v35 : Int32) => lt (gR S27 p0 0) fun (a36 : Nat) => lt (gI S27 p0 4) fun (v38 : Int32) => ldI S27 a36 v38 fun (v39 : Int32) => lt (uI S27 p0 7 (((v35 * 10) + v39) - 48)) fun (S40 : St) => lt (gI S40 p0 4) fun (v41 : Int32) => lt (uI S40 p0 4 (v41 + 1)) fun (S42 : St) => k28 S42) else (k15 S27)))) FU S9
def avA (p0 : Nat) (S1 : St) : Option St := lt (gI S1 p0 4) fun (v4 : Int32) => lt (uI S1 p0 3 v4) fun (S5 : St) => lt (gI S5 p0 3) fun (v6 : Int32) => cl (f_X9_kindAt S5 p0 v6) fun (v7 : Int32) => lt (uI S5 p0 2 v7) fun (S8 : St) => lt (uI S8 p0 7 0) fun (S9 : St) => lt (gI S9 p0 2) fun (v10 : Int32) => jn (κ := Int32 → Option (St)) (fun x11 => avB p0 S9 x11) fun k12 => jn (κ := Option (St)) (k12 1) fun k43 => if v10 = 1 then (k43) else (lt (gI S9 p0 2) fun (v45 : Int32) => if v45 = 2 then (k43) else (k12 0))
theorem avE (S : St) (p0 : Nat) : f_X9_advance S p0 = (jn (κ := St → Option (St)) (avA p0) fun k2 => lp (κ := St → Option (St)) (fun _ => none) (fun k47 S46 => lt (gI S46 p0 4) fun (v49 : Int32) => lt (gI S46 p0 1) fun (v50 : Int32) => if v50 ≤ v49 then (k2 S46) else (lt (gI S46 p0 4) fun (v51 : Int32) => cl (f_X9_kindAt S46 p0 v51) fun (v52 : Int32) => if v52 = 4 then (lt (gI S46 p0 4) fun (v53 : Int32) => lt (uI S46 p0 4 (v53 + 1)) fun (S54 : St) => k47 S54) else (k2 S46))) FU S) := by
  unfold f_X9_advance avA avB avC
  rfl
theorem udt_id {α : Type} {g : Nat → α} {k : Nat} {w : α} (h : g k = w) : udt g k w = g := by
  funext i
  by_cases e : i = k
  · rw [e, udt_e, h]
  · rw [udt_n e]
theorem udt_udt {α : Type} (g : Nat → α) (k : Nat) (w z : α) : udt (udt g k w) k z = udt g k z := by
  funext i
  by_cases e : i = k
  · rw [e, udt_e, udt_e]
  · rw [udt_n e, udt_n e, udt_n e]
theorem udt_cm {α : Type} (g : Nat → α) {k l : Nat} (w z : α) (h : k ≠ l) : udt (udt g k w) l z = udt (udt g l z) k w := by
  funext i
  by_cases e : i = k
  · rw [e, udt_n h, udt_e, udt_e]
  · by_cases e2 : i = l
    · rw [e2, udt_e, udt_n h.symm, udt_e]
    · rw [udt_n e2, udt_n e, udt_n e, udt_n e2]
theorem FU_s : ∃ F, FU = F + 1 := ⟨5999, rfl⟩
theorem nI3 {a : Nat} (h : a ≤ 5) {z : Nat} (hz : z ≤ 5) : (nI a = nI z) ↔ a = z := nI_eq (by omega) (by omega)
/-- what the ledger's advance does to the fields of its tokens -/
def TA (B : Nat → Int32) (n e : Nat) (T T' : Nat → Int32) : Prop := T' 1 = T 1 ∧ T' 5 = T 5 ∧ T' 6 = T 6 ∧ T' 3 = nI (tkS B n e) ∧ T' 4 = nI (tkR B n e) ∧ T' 2 = nI (tkK B n e) ∧ ((tk0 B n e = 1 ∨ tk0 B n e = 2) → T' 7 = cvl B (tkS B n e) (tkR B n e - tkS B n e))
def rnE (B : Nat → Int32) (n k0 s : Nat) : Nat := if k0 = 1 ∨ k0 = 2 then run B n k0 s else if k0 = 3 then s + 1 else s
theorem C_avB {B : Nat → Int32} {n s k0 : Nat} {T : Nat → Int32} (h : CB S ad B n) (h1 : T 1 = nI n) (h2 : T 2 = nI k0) (h3 : T 3 = nI s) (h4 : T 4 = nI s) (h7 : T 7 = 0) (hs : s ≤ n) (hk : k0 = kc B n s) (hk4 : k0 ≠ 4) : ∃ T', avB (ad 12) (qI S (ad 12) T) (bI (decide (k0 = 1 ∨ k0 = 2))) = some (qI S (ad 12) T') ∧ T' 1 = T 1 ∧ T' 5 = T 5 ∧ T' 6 = T 6 ∧ T' 3 = T 3 ∧ T' 4 = nI (rnE B n k0 s) ∧ T' 2 = nI (if (k0 = 1 ∧ 10 < rnE B n k0 s - s) ∨ (k0 = 2 ∧ 6 < rnE B n k0 s - s) then 5 else k0) ∧ ((k0 = 1 ∨ k0 = 2) → T' 7 = cvl B s (rnE B n k0 s - s)) := by
  have hn := h.2.1
  have hk5 : k0 ≤ 5 := by rw [hk]; exact kc_le B n s
  have gT : ∀ (T : Nat → Int32) i, gI (qI S (ad 12) T) (ad 12) i = T i := fun T i => by rw [gI_qI, if_pos rfl]
  have e3 : (nI k0 = 3) = (k0 = 3) := propext (nI3 hk5 (z := 3) (by omega))
  have e1 : (nI k0 = 1) = (k0 = 1) := propext (nI3 hk5 (z := 1) (by omega))
  unfold avB
  by_cases hr : k0 = 1 ∨ k0 = 2
  · rw [decide_eq_true hr, bI_t]
    have h0 : k0 ≠ 0 := by omega
    have hin : s < n := kc_in (B := B) (by rw [← hk]; exact h0)
    obtain ⟨r1, r2, r3, r4⟩ := run_f (B := B) (n := n) (kd := k0) h0 (n - s) s (by omega)
    have eR : rnE B n k0 s = run B n k0 s := if_pos hr
    have st0 : qI S (ad 12) T = (fun e => qI S (ad 12) (udt (udt T 7 (cvl B s (e - s))) 4 (nI e))) s := by
      show _ = qI S (ad 12) (udt (udt T 7 (cvl B s (s - s))) 4 (nI s))
      rw [Nat.sub_self, udt_id (g := T) (w := cvl B s 0) h7, udt_id h4]
    have loop := lp_run B n k0 h0 (fun e => qI S (ad 12) (udt (udt T 7 (cvl B s (e - s))) 4 (nI e))) (fun _ => none) (fun k28 S27 => if (1 : Int32) = 0 then (avC (ad 12) 1 S27) else (lt (gI S27 (ad 12) 4) fun (v30 : Int32) => lt (gI S27 (ad 12) 1) fun (v31 : Int32) => if v31 ≤ v30 then (avC (ad 12) 1 S27) else (lt (gI S27 (ad 12) 4) fun (v32 : Int32) => cl (f_X9_kindAt S27 (ad 12) v32) fun (v33 : Int32) => lt (gI S27 (ad 12) 2) fun (v34 : Int32) => if v33 = v34 then (lt (gI S27 (ad 12) 7) fun (v35 : Int32) => lt (gR S27 (ad 12) 0) fun (a36 : Nat) => lt (gI S27 (ad 12) 4) fun (v38 : Int32) => ldI S27 a36 v38 fun (v39 : Int32) => lt (uI S27 (ad 12) 7 (((v35 * 10) + v39) - 48)) fun (S40 : St) => lt (gI S40 (ad 12) 4) fun (v41 : Int32) => lt (uI S40 (ad 12) 4 (v41 + 1)) fun (S42 : St) => k28 S42) else (avC (ad 12) 1 S27)))) (avC (ad 12) 1) s ?_ ?_ (n - s) FU s (Nat.le_refl _) (by omega) (show n - s < 6000 by omega)
    · refine ⟨if (k0 = 1 ∧ 10 < run B n k0 s - s) ∨ (k0 = 2 ∧ 6 < run B n k0 s - s) then udt (udt (udt T 7 (cvl B s (run B n k0 s - s))) 4 (nI (run B n k0 s))) 2 5 else udt (udt T 7 (cvl B s (run B n k0 s - s))) 4 (nI (run B n k0 s)), ?_, ?_⟩
      · refine (jn_n _ _).trans ?_
        rw [st0]
        refine loop.trans ?_
        show avC (ad 12) 1 (qI S (ad 12) (udt (udt T 7 (cvl B s (run B n k0 s - s))) 4 (nI (run B n k0 s)))) = _
        unfold avC
        have f2 : udt (udt T 7 (cvl B s (run B n k0 s - s))) 4 (nI (run B n k0 s)) 2 = nI k0 := by rw [udt_n (by decide), udt_n (by decide), h2]
        have f3 : udt (udt T 7 (cvl B s (run B n k0 s - s))) 4 (nI (run B n k0 s)) 3 = nI s := by rw [udt_n (by decide), udt_n (by decide), h3]
        have f4 : udt (udt T 7 (cvl B s (run B n k0 s - s))) 4 (nI (run B n k0 s)) 4 = nI (run B n k0 s) := udt_e _ _ _
        simp only [lt_n, gT, f2, f3, f4, e3, show (k0 = 3) = False from eq_false (by omega), if_false, i10, nI_sub r1, jn_n, e1, uI_qI]
        have l10 : (nI (run B n k0 s - s) ≤ 10) = (run B n k0 s - s ≤ 10) := propext (nI_leI (b := 10) (by omega) (by omega))
        have l6 : (nI (run B n k0 s - s) ≤ 6) = (run B n k0 s - s ≤ 6) := propext (nI_leI (b := 6) (by omega) (by omega))
        simp only [l10, l6]
        by_cases k1 : k0 = 1
        · rw [if_pos k1]
          by_cases hl : run B n k0 s - s ≤ 10
          · rw [if_pos hl, if_neg (by omega)]
          · rw [if_neg hl, if_pos (Or.inl ⟨k1, by omega⟩)]
        · rw [if_neg k1]
          by_cases hl : run B n k0 s - s ≤ 6
          · rw [if_pos hl, if_neg (by omega)]
          · rw [if_neg hl, if_pos (Or.inr ⟨by omega, by omega⟩)]
      · rw [eR]
        by_cases hl : (k0 = 1 ∧ 10 < run B n k0 s - s) ∨ (k0 = 2 ∧ 6 < run B n k0 s - s)
        · rw [if_pos hl, if_pos hl]
          refine ⟨?_, ?_, ?_, ?_, ?_, ?_, fun _ => ?_⟩
          · rw [udt_n (by decide), udt_n (by decide), udt_n (by decide)]
          · rw [udt_n (by decide), udt_n (by decide), udt_n (by decide)]
          · rw [udt_n (by decide), udt_n (by decide), udt_n (by decide)]
          · rw [udt_n (by decide), udt_n (by decide), udt_n (by decide)]
          · rw [udt_n (by decide), udt_e]
          · rw [udt_e]; rfl
          · rw [udt_n (by decide), udt_n (by decide), udt_e]
        · rw [if_neg hl, if_neg hl]
          refine ⟨?_, ?_, ?_, ?_, ?_, ?_, fun _ => ?_⟩
          · rw [udt_n (by decide), udt_n (by decide)]
          · rw [udt_n (by decide), udt_n (by decide)]
          · rw [udt_n (by decide), udt_n (by decide)]
          · rw [udt_n (by decide), udt_n (by decide)]
          · rw [udt_e]
          · rw [udt_n (by decide), udt_n (by decide), h2]
          · rw [udt_n (by decide), udt_e]
    · intro k e he1 he hne
      have f1 : udt (udt T 7 (cvl B s (e - s))) 4 (nI e) 1 = nI n := by rw [udt_n (by decide), udt_n (by decide), h1]
      have f2 : udt (udt T 7 (cvl B s (e - s))) 4 (nI e) 2 = nI k0 := by rw [udt_n (by decide), udt_n (by decide), h2]
      have f4 : udt (udt T 7 (cvl B s (e - s))) 4 (nI e) 4 = nI e := udt_e _ _ _
      have ka := C_kindAt (CB_q h (udt (udt T 7 (cvl B s (e - s))) 4 (nI e))) (by rw [gT, f1]) (i := e) (by omega)
      have hle : (nI n ≤ nI e) = (n ≤ e) := propext (nI_leI (by omega) (by omega))
      have hkk : (nI (kc B n e) = nI k0) = (kc B n e = k0) := propext (nI3 (kc_le B n e) hk5)
      simp only [lt_n, gT, f1, f2, f4, i10, if_false, ka, cl_n, hle, hkk, hne]
      by_cases hz : n ≤ e <;> simp only [hz, if_true, if_false]
    · intro k e he1 he hke
      have f1 : udt (udt T 7 (cvl B s (e - s))) 4 (nI e) 1 = nI n := by rw [udt_n (by decide), udt_n (by decide), h1]
      have f2 : udt (udt T 7 (cvl B s (e - s))) 4 (nI e) 2 = nI k0 := by rw [udt_n (by decide), udt_n (by decide), h2]
      have f4 : udt (udt T 7 (cvl B s (e - s))) 4 (nI e) 4 = nI e := udt_e _ _ _
      have f7 : udt (udt T 7 (cvl B s (e - s))) 4 (nI e) 7 = cvl B s (e - s) := by rw [udt_n (by decide), udt_e]
      have hq := CB_q h (udt (udt T 7 (cvl B s (e - s))) 4 (nI e))
      have ka := C_kindAt hq (by rw [gT, f1]) (i := e) (by omega)
      have ldp : ∀ (K : Int32 → Option St), ldI (qI S (ad 12) (udt (udt T 7 (cvl B s (e - s))) 4 (nI e))) (ad 13) (nI e) K = K (B e) := fun K => by
        rw [ldI_at (by rw [n_13 hq.1]; omega) (by rw [n_13 hq.1]; decide), hq.2.2 e he]
      have hle : (nI n ≤ nI e) = False := eq_false (by rw [nI_leI (by omega) (by omega)]; omega)
      have f44 : ∀ z, udt (udt (udt T 7 (cvl B s (e - s))) 4 (nI e)) 7 z 4 = nI e := fun z => by rw [udt_n (by decide), udt_e]
      simp only [lt_n, gT, f1, f2, f4, f7, i10, if_false, ka, cl_n, hle, hke, if_true, r_12_0 hq.1, ldp, uI_qI, f44, nI_1]
      congr 2
      rw [show e + 1 - s = (e - s) + 1 by omega, cvl, show s + (e - s) = e by omega, udt_cm _ _ _ (show (4 : Nat) ≠ 7 by decide), udt_udt, udt_udt]
  · rw [decide_eq_false hr, bI_f]
    have eR : rnE B n k0 s = if k0 = 3 then s + 1 else s := if_neg hr
    have nl : ¬ ((k0 = 1 ∧ 10 < rnE B n k0 s - s) ∨ (k0 = 2 ∧ 6 < rnE B n k0 s - s)) := by omega
    obtain ⟨F, hF⟩ := FU_s
    refine ⟨if k0 = 3 then udt T 4 (nI (s + 1)) else T, ?_, ?_⟩
    · refine (jn_n _ _).trans ?_
      rw [hF, lp_s, if_pos rfl]
      unfold avC
      simp only [lt_n, gT, h2, e3, h4, uI_qI, nI_1, if_true]
      by_cases k3 : k0 = 3
      · rw [if_pos k3, if_pos k3]
      · rw [if_neg k3, if_neg k3]
    · rw [if_neg nl, eR]
      by_cases k3 : k0 = 3
      · rw [if_pos k3, if_pos k3]
        exact ⟨udt_n (by decide), udt_n (by decide), udt_n (by decide), udt_n (by decide), udt_e _ _ _, (udt_n (by decide)).trans h2, fun z => absurd z hr⟩
      · rw [if_neg k3, if_neg k3]
        exact ⟨rfl, rfl, rfl, rfl, h4, h2, fun z => absurd z hr⟩
theorem C_adv {B : Nat → Int32} {n e : Nat} {T : Nat → Int32} (h : CB S ad B n) (h1 : T 1 = nI n) (h4 : T 4 = nI e) (he : e ≤ n) : ∃ T', f_X9_advance (qI S (ad 12) T) (ad 12) = some (qI S (ad 12) T') ∧ TA B n e T T' := by
  have hn := h.2.1
  have gT : ∀ (T : Nat → Int32) i, gI (qI S (ad 12) T) (ad 12) i = T i := fun T i => by rw [gI_qI, if_pos rfl]
  obtain ⟨s1, s2, s3⟩ := tkS_f (B := B) he
  have k5 : tk0 B n e ≤ 5 := kc_le B n _
  have e1 : (nI (tk0 B n e) = 1) = (tk0 B n e = 1) := propext (nI3 k5 (z := 1) (by omega))
  have e2 : (nI (tk0 B n e) = 2) = (tk0 B n e = 2) := propext (nI3 k5 (z := 2) (by omega))
  obtain ⟨T', q1, q2, q3, q4, q5, q6, q7, q8⟩ := C_avB (k0 := tk0 B n e) (s := tkS B n e) (T := udt (udt (udt (udt T 4 (nI (tkS B n e))) 3 (nI (tkS B n e))) 2 (nI (tk0 B n e))) 7 0) h (by rw [udt_n (by decide), udt_n (by decide), udt_n (by decide), udt_n (by decide), h1]) (by rw [udt_n (by decide), udt_e]) (by rw [udt_n (by decide), udt_n (by decide), udt_e]) (by rw [udt_n (by decide), udt_n (by decide), udt_n (by decide), udt_e]) (udt_e _ _ _) s2 rfl s3
  refine ⟨T', ?_, ?_⟩
  · rw [avE]
    refine (jn_n _ _).trans ?_
    have st0 : qI S (ad 12) T = (fun e => qI S (ad 12) (udt T 4 (nI e))) e := by
      show _ = qI S (ad 12) (udt T 4 (nI e))
      rw [udt_id h4]
    rw [st0]
    refine (lp_run B n 4 (by decide) (fun e => qI S (ad 12) (udt T 4 (nI e))) _ _ (avA (ad 12)) e ?_ ?_ (n - e) FU e (Nat.le_refl _) (by omega) (show n - e < 6000 by omega)).trans ?_
    · intro k e' he1 he' hne
      have f1 : udt T 4 (nI e') 1 = nI n := by rw [udt_n (by decide), h1]
      have f4 : udt T 4 (nI e') 4 = nI e' := udt_e _ _ _
      have ka := C_kindAt (CB_q h (udt T 4 (nI e'))) (by rw [gT, f1]) (i := e') (by omega)
      have hle : (nI n ≤ nI e') = (n ≤ e') := propext (nI_leI (by omega) (by omega))
      have hkk : (nI (kc B n e') = 4) = (kc B n e' = 4) := propext (nI3 (kc_le B n e') (z := 4) (by omega))
      simp only [lt_n, gT, f1, f4, ka, cl_n, hle, hkk, hne, if_false]
      by_cases hz : n ≤ e' <;> simp only [hz, if_true, if_false]
    · intro k e' he1 he' hke
      have f1 : udt T 4 (nI e') 1 = nI n := by rw [udt_n (by decide), h1]
      have f4 : udt T 4 (nI e') 4 = nI e' := udt_e _ _ _
      have ka := C_kindAt (CB_q h (udt T 4 (nI e'))) (by rw [gT, f1]) (i := e') (by omega)
      have hle : (nI n ≤ nI e') = False := eq_false (by rw [nI_leI (by omega) (by omega)]; omega)
      have n4 : (nI 4 = 4) = True := eq_true rfl
      simp only [lt_n, gT, f1, f4, ka, cl_n, hle, hke, n4, if_true, if_false, uI_qI, nI_1, udt_udt]
    · show avA (ad 12) (qI S (ad 12) (udt T 4 (nI (tkS B n e)))) = _
      have f4 : udt T 4 (nI (tkS B n e)) 4 = nI (tkS B n e) := udt_e _ _ _
      have f3 : udt (udt T 4 (nI (tkS B n e))) 3 (nI (tkS B n e)) 3 = nI (tkS B n e) := udt_e _ _ _
      have f1 : udt (udt T 4 (nI (tkS B n e))) 3 (nI (tkS B n e)) 1 = nI n := by rw [udt_n (by decide), udt_n (by decide), h1]
      have ka := C_kindAt (CB_q h (udt (udt T 4 (nI (tkS B n e))) 3 (nI (tkS B n e)))) (by rw [gT, f1]) (i := tkS B n e) (by omega)
      have f2 : udt (udt (udt (udt T 4 (nI (tkS B n e))) 3 (nI (tkS B n e))) 2 (nI (tk0 B n e))) 7 0 2 = nI (tk0 B n e) := by rw [udt_n (by decide), udt_e]
      have ka' : f_X9_kindAt (qI S (ad 12) (udt (udt T 4 (nI (tkS B n e))) 3 (nI (tkS B n e)))) (ad 12) (nI (tkS B n e)) = some (nI (tk0 B n e)) := ka
      unfold avA
      simp only [lt_n, gT, f4, uI_qI, f3, ka', cl_n, f2, jn_n, e1, e2]
      rw [← q1]
      by_cases z1 : tk0 B n e = 1
      · rw [if_pos z1, decide_eq_true (Or.inl z1)]; rfl
      · rw [if_neg z1]
        by_cases z2 : tk0 B n e = 2
        · rw [if_pos z2, decide_eq_true (Or.inr z2)]; rfl
        · rw [if_neg z2, decide_eq_false (fun z => z.elim z1 z2)]; rfl
  · have u4 : ∀ i, i ≠ 4 → i ≠ 3 → i ≠ 2 → i ≠ 7 → udt (udt (udt (udt T 4 (nI (tkS B n e))) 3 (nI (tkS B n e))) 2 (nI (tk0 B n e))) 7 0 i = T i := fun i a1 a2 a3 a4 => by rw [udt_n a4, udt_n a3, udt_n a2, udt_n a1]
    refine ⟨q2.trans (u4 1 (by decide) (by decide) (by decide) (by decide)), q3.trans (u4 5 (by decide) (by decide) (by decide) (by decide)), q4.trans (u4 6 (by decide) (by decide) (by decide) (by decide)), q5.trans (by rw [udt_n (by decide), udt_n (by decide), udt_e]), q6, q7, q8⟩
