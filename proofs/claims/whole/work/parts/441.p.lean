/-! the pure part: closing a month, the first loop of the reference -/
variable {S S1 S2 S' S'' S3 X : St} {ad : Nat → Nat} {b d j k : Nat} {v v' v1 v2 : Nat → Int64} {np nf no mo no' mo' : Nat}
theorem WF_row (w : WF v np nf no mo) (hm : mo < 60) (h8 : nf ≤ 8) (h16 : no ≤ 16) (h4 : np ≤ 4) (hv : ∀ i, ¬ rowI mo i → v' i = v i) : WF v' np nf no mo := by
  have H : ∀ i, i < 1214 ∨ 5054 ≤ i → v' i = v i := fun i hi => hv i (by unfold rowI; omega)
  obtain ⟨a1, ap, af, ao, ac, ad0, as, ar⟩ := w
  refine ⟨?_, fun q hq => by rw [H _ (by omega)]; exact ap q hq, fun g hg => ?_, fun o ho => ?_, fun l hl => by rw [H _ (by omega)]; exact ac l hl, fun i hi => by rw [H _ (by omega)]; exact ad0 i hi, ?_, fun k g hk hg => by rw [hv _ (by unfold rowI; omega)]; exact ar k g hk hg⟩
  · rw [H 4 (by omega), H 5 (by omega), H 6 (by omega), H 7 (by omega), H 8 (by omega), H 9 (by omega)]; exact a1
  · rw [H _ (by omega), H _ (by omega), H _ (by omega), H _ (by omega)]; exact af g hg
  · obtain ⟨⟨x, y, hx, hy, e1, e2, e3⟩, s, hs, e4⟩ := ao o ho
    refine ⟨⟨x, y, hx, hy, by rw [H _ (by omega)]; exact e1, by rw [H _ (by omega)]; exact e2, ?_⟩, s, hs, by rw [H _ (by omega)]; exact e4⟩
    rw [H (186 + 4 * o + 0) (by omega), H (250 + (30 * y + x)) (by omega)]; exact e3
  · rw [H 11 (by omega), H 12 (by omega), H 13 (by omega)]; exact as
theorem pJ_qJ (S : St) {a c : Nat} (h : a ≠ c) (n : Nat) (g f : Nat → Int64) : pJ (qJ S c f) a n g = qJ (pJ S a n g) c f := by
  unfold pJ qJ
  refine Prod.ext rfl (Prod.ext ?_ rfl)
  funext x y
  show (if x = a ∧ y < n then g y else if x = c then f y else S.2.1 x y) = if x = c then f y else if x = a ∧ y < n then g y else S.2.1 x y
  by_cases e1 : x = c
  · have : ¬ (x = a ∧ y < n) := fun e => h (e.1.symm.trans e1)
    rw [if_neg this, if_pos e1, if_pos e1]
  · rw [if_neg e1, if_neg e1]
theorem bInv_char (v : Nat → Int64) (mo f : Nat) (a : Nat → Int64) : ∀ n, itr (fun i w => udt w (1694 + 7 * (8 * mo + f) + i) (a i)) 0 n v = fun i => if 1694 + 7 * (8 * mo + f) ≤ i ∧ i < 1694 + 7 * (8 * mo + f) + n then a (i - (1694 + 7 * (8 * mo + f))) else v i := by
  intro n
  induction n with
  | zero => funext i; show v i = _; rw [if_neg (by omega)]
  | succ n ih =>
    rw [itr_succ, ih, Nat.zero_add]
    funext i
    by_cases h : i = 1694 + 7 * (8 * mo + f) + n
    · rw [h, udt_e, if_pos (by omega), Nat.add_sub_cancel_left]
    · rw [udt_n h]
      show (if 1694 + 7 * (8 * mo + f) ≤ i ∧ i < 1694 + 7 * (8 * mo + f) + n then _ else _) = _
      by_cases h2 : 1694 + 7 * (8 * mo + f) ≤ i ∧ i < 1694 + 7 * (8 * mo + f) + n
      · rw [if_pos h2, if_pos (by omega)]
      · rw [if_neg h2, if_neg (by omega)]
theorem lq37 (t : TR S ad) {g w : Nat → Int64} {β : Type} {i : Int32} {n : Nat} {k : Int64 → Option β} (e : i = nI n) (hn : n < 7) : ldJ (qJ (pJ S (ad 7) 7 g) (ad 3) w) (ad 7) i k = k (g n) := by
  rw [e, ldJ_at (by rw [gN_qJ, gN_pJ, n_7 t]; exact hn) (by rw [gN_qJ, gN_pJ, n_7 t]; decide), gJ_qJ, if_neg (fun e => absurd ((t.1 _ _).mp e) (by decide)), gJ_pJ, if_pos ⟨rfl, hn⟩]
/-- the part of the loop's body behind calculate -/
theorem M_step1 (h : Mv X ad v np nf no mo) (w : WF v np nf no mo) (hT : ∀ p, p < np → ∃ t, t ≤ 4 ∧ v (14 + 11 * p + 2) = lN t) (hm : mo < 60) {f : Nat} (hf : f < nf) (x : Int64) (k : Int64 → Int32 → St → Option (Int32 × St)) : (cl (f_X12_salesNow X (ad 1) (nI f) 100) fun (v79 : Int64) => lt (gR X (ad 1) 0) fun (a80 : Nat) => stJ X a80 ((1214 + (8 * nI mo)) + nI f) v79 fun (S82 : St) => cl (f_X12_calculate S82 (ad 1) (nI f) v79) fun (S83 : St) => jn (κ := St → Option (Int32 × St)) (fun S84 => cl (f_X12_isActive S84 (ad 1) (nI f)) fun (v87 : Int32) => jn (κ := St → Option (Int32 × St)) (fun S88 => lt (gR S88 (ad 1) 5) fun (a91 : Nat) => ldJ S88 a91 5 fun (v93 : Int64) => cl (f_X12_add S88 (ad 1) (nI f) 4 v93) fun (S94 : St) => lt (gR S94 (ad 1) 5) fun (a95 : Nat) => ldJ S94 a95 1 fun (v97 : Int64) => cl (f_X12_add S94 (ad 1) (nI f) 7 v97) fun (S98 : St) => lt (gR S98 (ad 1) 5) fun (a99 : Nat) => ldJ S98 a99 1 fun (v101 : Int64) => lt (x + v101) fun (v102 : Int64) => k v102 (nI f + 1) S98) fun k89 => if v87 = 0 then (k89 S84) else (cl (f_X12_of S84 (ad 1) (nI f) 4) fun (v103 : Int64) => jn (κ := Int64 → Option (Int32 × St)) (fun x104 => cl (f_X12_set S84 (ad 1) (nI f) 6 x104) fun (S107 : St) => k89 S107) fun k105 => if v103 ≤ 0 then (k105 0) else (cl (f_X12_of S84 (ad 1) (nI f) 6) fun (v108 : Int64) => k105 (v108 + 1)))) fun k85 => lp (κ := Int32 → St → Option (Int32 × St)) (fun _ _ => none) (fun k111 x109 S110 => if 7 ≤ x109 then (k85 S110) else (lt (gR S110 (ad 1) 0) fun (a113 : Nat) => cl (f_X12_invoiceRow S110 (ad 1) (nI f) (nI mo)) fun (v115 : Int32) => lt (gR S110 (ad 1) 5) fun (a116 : Nat) => ldJ S110 a116 x109 fun (v118 : Int64) => stJ S110 a113 (v115 + x109) v118 fun (S119 : St) => k111 (x109 + 1) S119)) FU 0 S83) = k (x + am v nf f (sls v no (nI f) 100) 1) (nI (f + 1)) (qJ (pJ X (ad 7) 7 (am v nf f (sls v no (nI f) 100))) (ad 3) (bl1 v nf no mo f)) := by
  have h8 := h.2.2.2.2.2.2.2.1
  have h16 := h.2.2.2.2.2.2.2.2.1
  have h4 := h.2.2.2.2.2.2.1
  have f8 : f < 8 := by omega
  have n73 : ad 7 ≠ ad 3 := fun e => absurd ((h.1.1 _ _).mp e) (by decide)
  have eX : X = qJ X (ad 3) v := by rw [← h.2.1, qJ_self]
  rw [M_salesNow h]
  simp only [cl_n]
  generalize hs : sls v no (nI f) 100 = s
  generalize ha : am v nf f s = a
  rw [lt_n, r_1_0 h.1, show (1214 : Int32) + 8 * nI mo + nI f = nI (1214 + 8 * mo + f) by rw [mu8, ad1214, nI_add]]
  have e1 : stJ X (ad 3) (nI (1214 + 8 * mo + f)) s = fun (K : St → Option (Int32 × St)) => K (qJ X (ad 3) (udt v (1214 + 8 * mo + f) s)) := by
    funext K
    conv => lhs; rw [eX]
    rw [st3 h.1 (by omega)]
  rw [e1]
  have hv1 : ∀ i, ¬ rowI mo i → udt v (1214 + 8 * mo + f) s i = v i := fun i hi => udt_n (by unfold rowI at hi; omega)
  have h1 : Mv (qJ X (ad 3) (udt v (1214 + 8 * mo + f) s)) ad (udt v (1214 + 8 * mo + f) s) np nf no mo := Mv_q h (udt_n (by omega)) (udt_n (by omega)) (udt_n (by omega)) (udt_n (by omega))
  have w1 := WF_row w hm h8 h16 h4 hv1
  have hT1 : ∀ p, p < np → ∃ t, t ≤ 4 ∧ udt v (1214 + 8 * mo + f) s (14 + 11 * p + 2) = lN t := fun p hp => by rw [udt_n (by omega)]; exact hT p hp
  obtain ⟨hp, ep⟩ := pl_N w h4 hf
  obtain ⟨t, ht, et⟩ := hT _ hp
  have ea : am (udt v (1214 + 8 * mo + f) s) nf f s = a := by
    rw [← ha]
    exact am_w (v := v) (fun i hi => udt_n (by omega)) hf h8 (fun q hq => udt_n (by omega)) (by omega) (by rw [trn_e ht et]; exact ht) s
  show (cl (f_X12_calculate (qJ X (ad 3) (udt v (1214 + 8 * mo + f) s)) (ad 1) (nI f) s) _) = _
  rw [M_calc h1 h4 hT1 w1 hf s, ea, pJ_qJ X n73, cl_n]
  have T : ∀ u, TR (qJ (pJ X (ad 7) 7 a) (ad 3) u) ad := fun u => TR_SR0 ((SR0_pJ _ _ _ _).trans (SR0_qJ _ _ _)) h.1
  have hp7 := Mv_p7 h 7 a
  have J0 : ∀ u : Nat → Int64, (∀ i, i < 4 → u i = v i) → Mv (qJ (pJ X (ad 7) 7 a) (ad 3) u) ad u np nf no mo := fun u hu => Mv_q hp7 (hu 1 (by omega)) (hu 2 (by omega)) (hu 3 (by omega)) (hu 0 (by omega))
  refine (jn_n _ _).trans ?_
  refine (lp_for0 (fun (k : Int32 → St → Option (Int32 × St)) i (u : Nat → Int64) => k (nI i) (qJ (pJ X (ad 7) 7 a) (ad 3) u)) _ _ 7 (by decide) (fun i u => udt u (1694 + 7 * (8 * mo + f) + i) (a i)) (fun u => k (x + a 1) (nI (f + 1)) (qJ (pJ X (ad 7) 7 a) (ad 3) (if act v f then udt (udt (udt u (58 + 16 * f + 6) (bOv v f)) (58 + 16 * f + 4) (v (58 + 16 * f + 4) + a 5)) (58 + 16 * f + 7) (v (58 + 16 * f + 7) + a 1) else udt (udt u (58 + 16 * f + 4) (v (58 + 16 * f + 4) + a 5)) (58 + 16 * f + 7) (v (58 + 16 * f + 7) + a 1)))) (fun _ u => (∀ i, i < 4 → u i = v i) ∧ ∀ q, q < 16 → u (58 + 16 * f + q) = v (58 + 16 * f + q)) (udt v (1214 + 8 * mo + f) s) ⟨fun i hi => udt_n (by omega), fun q hq => udt_n (by omega)⟩ ?_ ?_ ?_).trans ?_
  · intro K i u hi hu
    rw [if_neg (ge7 hi)]
    simp only [lt_n, r_1_0 (T u), M_invRow, cl_n, r_1_5 (T u), lq37 h.1 (n := i) rfl hi, nI_add, nI_1]
    rw [st3 (TR_SR0 (SR0_pJ _ _ _ _) h.1) (by omega)]
  · intro i u hi hu
    exact ⟨fun l hl => by rw [udt_n (by omega)]; exact hu.1 l hl, fun q hq => by rw [udt_n (by omega)]; exact hu.2 q hq⟩
  · intro K u hu
    have hM := J0 u hu.1
    have eact : act u f = act v f := by unfold act; rw [hu.2 3 (by decide)]
    rw [if_pos le7]
    have fin : ∀ u' : Nat → Int64, (∀ i, i < 4 → u' i = v i) → u' (58 + 16 * f + 4) = v (58 + 16 * f + 4) → u' (58 + 16 * f + 7) = v (58 + 16 * f + 7) → (lt (gR (qJ (pJ X (ad 7) 7 a) (ad 3) u') (ad 1) 5) fun (a91 : Nat) => ldJ (qJ (pJ X (ad 7) 7 a) (ad 3) u') a91 5 fun (v93 : Int64) => cl (f_X12_add (qJ (pJ X (ad 7) 7 a) (ad 3) u') (ad 1) (nI f) 4 v93) fun (S94 : St) => lt (gR S94 (ad 1) 5) fun (a95 : Nat) => ldJ S94 a95 1 fun (v97 : Int64) => cl (f_X12_add S94 (ad 1) (nI f) 7 v97) fun (S98 : St) => lt (gR S98 (ad 1) 5) fun (a99 : Nat) => ldJ S98 a99 1 fun (v101 : Int64) => lt (x + v101) fun (v102 : Int64) => k v102 (nI f + 1) S98) = k (x + a 1) (nI (f + 1)) (qJ (pJ X (ad 7) 7 a) (ad 3) (udt (udt u' (58 + 16 * f + 4) (v (58 + 16 * f + 4) + a 5)) (58 + 16 * f + 7) (v (58 + 16 * f + 7) + a 1))) := by
      intro u' hu' e4 e7
      have hM1 := J0 u' hu'
      have hM2 := J0 (udt u' (58 + 16 * f + 4) (v (58 + 16 * f + 4) + a 5)) (fun i hi => by rw [udt_n (by omega)]; exact hu' i hi)
      simp only [lt_n, r_1_5 (T _), lq37 h.1 (i := 5) (n := 5) rfl (by decide), lq37 h.1 (i := 1) (n := 1) rfl (by decide), M_add hM1 f8 (q := 4) (i := 4) (by decide) rfl, e4, cl_n, uJ_qJ]
      rw [M_add hM2 f8 (q := 7) (i := 7) (by decide) rfl, udt_n (show 58 + 16 * f + 7 ≠ 58 + 16 * f + 4 by omega), e7]
      simp only [cl_n, uJ_qJ, r_1_5 (T _), lq37 h.1 (i := 1) (n := 1) rfl (by decide), nI_1]
    show (cl (f_X12_isActive (qJ (pJ X (ad 7) 7 a) (ad 3) u) (ad 1) (nI f)) _) = _
    rw [M_act hM f8, eact, cl_n]
    refine (jn_n _ _).trans ?_
    simp only [if_bI]
    cases act v f
    · simp only [Bool.false_eq_true, if_false]
      exact fin u hu.1 (hu.2 4 (by decide)) (hu.2 7 (by decide))
    · simp only [if_true, M_of4 hM f8, M_of6 hM f8, hu.2 4 (by decide), hu.2 6 (by decide), cl_n]
      refine (jn_n _ _).trans ?_
      have st6 : ∀ y : Int64, (cl (f_X12_set (qJ (pJ X (ad 7) 7 a) (ad 3) u) (ad 1) (nI f) 6 y)) = fun (K2 : St → Option (Int32 × St)) => K2 (qJ (pJ X (ad 7) 7 a) (ad 3) (udt u (58 + 16 * f + 6) y)) := fun y => by
        funext K2
        rw [M_set hM f8 (q := 6) (i := 6) (by decide) rfl, cl_n, uJ_qJ]
      simp only [st6]
      have F := fun y => fin (udt u (58 + 16 * f + 6) y) (fun i hi => by rw [udt_n (by omega)]; exact hu.1 i hi) (by rw [udt_n (by omega)]; exact hu.2 4 (by decide)) (by rw [udt_n (by omega)]; exact hu.2 7 (by decide))
      by_cases e : v (58 + 16 * f + 4) ≤ 0
      · have : bOv v f = 0 := by unfold bOv; rw [if_pos e]
        simp only [e, if_true, this]
        exact F 0
      · have : bOv v f = v (58 + 16 * f + 6) + 1 := by unfold bOv; rw [if_neg e]
        simp only [e, if_false, this]
        exact F _
  · rw [bInv_char]
    have : bl1 v nf no mo f = (if act v f then udt (udt (udt (bInv (udt v (1214 + 8 * mo + f) s) mo f a) (58 + 16 * f + 6) (bOv v f)) (58 + 16 * f + 4) (v (58 + 16 * f + 4) + a 5)) (58 + 16 * f + 7) (v (58 + 16 * f + 7) + a 1) else udt (udt (bInv (udt v (1214 + 8 * mo + f) s) mo f a) (58 + 16 * f + 4) (v (58 + 16 * f + 4) + a 5)) (58 + 16 * f + 7) (v (58 + 16 * f + 7) + a 1)) := by
      unfold bl1
      simp only [hs, ha]
      cases act v f <;> rfl
    rw [this]
    rfl
