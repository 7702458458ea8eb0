/-! the pure part: formatInvoice -/
variable {S S0 S1 S2 S' S'' S3 X : St} {ad : Nat → Nat} {b d j k : Nat} {v v0 v' v1 v2 u w : Nat → Int64} {np nf no mo no' mo' x y : Nat}
def TX (A : Nat → Int64) (K : Nat → Nat) : Nat → List Int32
  | 0 => []
  | i + 1 => TX A K i ++ (bytS.getD (19 + i) [] ++ amL (A i) (K i))
theorem TX_len {A : Nat → Int64} {K : Nat → Nat} (hK : ∀ i, OKK (A i) (K i)) : ∀ i, i ≤ 7 → (TX A K i).length ≤ 31 * i := by
  intro i
  induction i with
  | zero => intro _; exact Nat.le_refl _
  | succ i ih =>
    intro hi
    have h1 := ih (by omega)
    have h2 := amL_len (A i) (K i)
    have h3 := (hK i).1
    have h10 : ∀ i, i < 26 → lenS.getD i 0 ≤ 10 := by decide
    have h4 := h10 (19 + i) (by omega)
    rw [TX, List.length_append, List.length_append, bytS_len (19 + i) (by omega)]
    omega
theorem C_fpart (t : TR S ad) {A : Nat → Int64} {K : Nat → Nat} (hK : ∀ i, OKK (A i) (K i)) {i : Nat} (hi : i < 7) (h0 : gI S (ad 14) 1 = nI 0) : f_X4_addPart (pL (ad 15) (ad 14) 1 (TX A K i) S 0) (ad 14) (19 + i) (A i) = some (pL (ad 15) (ad 14) 1 (TX A K (i + 1)) S 0) := by
  have hl := TX_len hK i (by omega)
  have h10 : ∀ i, i < 26 → lenS.getD i 0 ≤ 10 := by decide
  have h4 := h10 (19 + i) (by omega)
  obtain ⟨k16, k1, k2, -⟩ := hK i
  have t1 : TR (pL (ad 15) (ad 14) 1 (TX A K i) S 0) ad := TR_SR0 (SR0_pL _ _ _ _ _ _) t
  have c1 : gI (pL (ad 15) (ad 14) 1 (TX A K i) S 0) (ad 14) 1 = nI (0 + (TX A K i).length) := cn_pL (n15_14 t) 1 _ S 0 h0
  rw [C_part t1 (show 19 + i < 26 by omega) c1 (A i) k16 k1 k2 (by omega), show TX A K (i + 1) = TX A K i ++ (bytS.getD (19 + i) [] ++ amL (A i) (K i)) from rfl, pL_app (ad 15) (ad 14) 1 (TX A K i)]
theorem Mv_pL (h : Mv S ad v np nf no mo) (a c l : Nat) (L : List Int32) (n : Nat) : Mv (pL a c l L S n) ad v np nf no mo :=
  ⟨TR_SR0 (SR0_pL _ _ _ _ _ _) h.1, by rw [← h.2.1]; funext q; rw [gJ_pL], h.2.2⟩
theorem R_fpart (h : Mv S ad v np nf no mo) {A : Nat → Int64} {K : Nat → Nat} (hK : ∀ i, OKK (A i) (K i)) {i f m : Nat} (hi : i < 7) (hf : f < 8) (hm : m < 60) (h0 : gI S (ad 1) 7 = nI 0) (hA : A i = v (1694 + 7 * (8 * m + f) + i)) (k19 : Int32 → St → Option (Int32 × St)) : (jn (κ := St → Option (Int32 × St)) (fun S21 => cl (f_X12_partName S21 (nI i)) fun (v24 : Int64) => cl (f_X12_appendWord S21 (ad 1) v24) fun (S25 : St) => lt (gR S25 (ad 1) 0) fun (a26 : Nat) => cl (f_X12_invoiceRow S25 (ad 1) (nI f) (nI m)) fun (v28 : Int32) => ldJ S25 a26 (v28 + nI i) fun (v29 : Int64) => cl (f_X12_appendAmount S25 (ad 1) v29) fun (S30 : St) => k19 (nI i + 1) S30) fun k22 => if nI i ≤ 0 then (k22 (pL (ad 8) (ad 1) 7 (TX A K i) S 0)) else (cl (f_X12_append (pL (ad 8) (ad 1) 7 (TX A K i) S 0) (ad 1) 32) fun (S31 : St) => k22 S31)) = k19 (nI (i + 1)) (pL (ad 8) (ad 1) 7 (TX A K (i + 1)) S 0) := by
  have hl := TX_len hK i (by omega)
  obtain ⟨k16, -, -, k3, k4, k5⟩ := hK i
  obtain ⟨w, hw, hwl⟩ := R_pn S hi
  have hMi := Mv_pL h (ad 8) (ad 1) 7 (TX A K i) 0
  have c1 : gI (pL (ad 8) (ad 1) 7 (TX A K i) S 0) (ad 1) 7 = nI (0 + (TX A K i).length) := cn_pL (n8_1 h.1) 7 _ S 0 h0
  have h10 := lwL_len w 10
  refine (jn_n _ _).trans ?_
  have rest : ∀ (V : St) (q : Nat), Mv V ad v np nf no mo → gI V (ad 1) 7 = nI q → q + 33 ≤ 300 → (cl (f_X12_partName V (nI i)) fun (v24 : Int64) => cl (f_X12_appendWord V (ad 1) v24) fun (S25 : St) => lt (gR S25 (ad 1) 0) fun (a26 : Nat) => cl (f_X12_invoiceRow S25 (ad 1) (nI f) (nI m)) fun (v28 : Int32) => ldJ S25 a26 (v28 + nI i) fun (v29 : Int64) => cl (f_X12_appendAmount S25 (ad 1) v29) fun (S30 : St) => k19 (nI i + 1) S30) = k19 (nI (i + 1)) (pL (ad 8) (ad 1) 7 ((lwL w 10 ++ [32]) ++ amL (A i) (K i)) V q) := by
    intro V q hV cV hq
    have hM2 := Mv_pL hV (ad 8) (ad 1) 7 (lwL w 10 ++ [32]) q
    have c2 : gI (pL (ad 8) (ad 1) 7 (lwL w 10 ++ [32]) V q) (ad 1) 7 = nI (q + (lwL w 10 ++ [32]).length) := cn_pL (n8_1 h.1) 7 _ V q cV
    have hll : (lwL w 10 ++ [32]).length ≤ 11 := by rw [List.length_append]; simp; omega
    rw [show f_X12_partName V (nI i) = some w from hw, cl_n, R_word hV.1 cV (by omega) w, cl_n, lt_n, r_1_0 hM2.1, M_invRow, cl_n, nI_add, ldS hM2 (by omega), ← hA, R_amount hM2.1 c2 (A i) k16 k3 k4 (by omega), cl_n, nI_1, k5, pL_app (ad 8) (ad 1) 7 (lwL w 10 ++ [32]) (amL (A i) (K i)) V q]
    rfl
  by_cases e0 : i = 0
  · subst e0
    rw [if_pos (by decide)]
    refine (rest _ _ hMi c1 (by omega)).trans ?_
    rw [if_pos rfl, List.nil_append] at hwl
    rw [show TX A K (0 + 1) = TX A K 0 ++ (bytS.getD (19 + 0) [] ++ amL (A 0) (K 0)) from rfl, pL_app (ad 8) (ad 1) 7 (TX A K 0), hwl]
  · have n0 : ¬ nI i ≤ 0 := nI_nle (by omega) (by omega)
    have hM3 := Mv_pL hMi (ad 8) (ad 1) 7 [32] (0 + (TX A K i).length)
    have c3 : gI (pL (ad 8) (ad 1) 7 [32] (pL (ad 8) (ad 1) 7 (TX A K i) S 0) (0 + (TX A K i).length)) (ad 1) 7 = nI (0 + (TX A K i).length + 1) := cn_pL (n8_1 h.1) 7 [32] _ _ c1
    rw [if_neg n0, R_app hMi.1 c1 (by omega), cl_n]
    refine (rest _ _ hM3 c3 (by omega)).trans ?_
    rw [if_neg e0] at hwl
    rw [show TX A K (i + 1) = TX A K i ++ (bytS.getD (19 + i) [] ++ amL (A i) (K i)) from rfl, pL_app (ad 8) (ad 1) 7 (TX A K i), ← hwl, List.append_assoc [32] (lwL w 10 ++ [32]), pL_app (ad 8) (ad 1) 7 [32]]
    rfl
theorem R_format (h : Mv S ad v np nf no mo) {A : Nat → Int64} {K : Nat → Nat} (hK : ∀ i, OKK (A i) (K i)) {f m : Nat} (hf : f < nf) (hm : m < mo) (hA : ∀ i, i < 7 → A i = v (1694 + 7 * (8 * m + f) + i)) : f_X12_formatInvoice S (ad 1) (nI f) (nI m) = some (nI (TX A K 7).length, pL (ad 8) (ad 1) 7 (TX A K 7) (uI (uI S (ad 1) 2 0) (ad 1) 7 0) 0) := by
  have h8 := h.2.2.2.2.2.2.2.1
  have h60 := h.2.2.2.2.2.2.2.2.2
  have h1 := Mv_t h (ad 1) 2 0
  have h2 := Mv_t h1 (ad 1) 7 0
  have hB : vin (nI f) nf = true := vin_nI hf (by omega)
  have hC : vin (nI m) mo = true := vin_nI hm (by omega)
  have z7 : gI (uI (uI S (ad 1) 2 0) (ad 1) 7 0) (ad 1) 7 = nI 0 := by rw [gI_uI, if_pos ⟨rfl, rfl⟩]; rfl
  unfold f_X12_formatInvoice
  rw [lt_n, M_isFr h1, hB, cl_n, jn_n]
  simp only [if_bI, if_true, M_throws0, cl_n, M_isCl h1, hC]
  refine (jn_n _ _).trans ?_
  simp only [if_true, M_throws0, cl_n]
  refine (lt_n _ _).trans ?_
  refine (jn_n _ _).trans ?_
  generalize uI (uI S (ad 1) 2 0) (ad 1) 7 0 = U at h2 z7 ⊢
  refine (lp_for0 (fun (k : Int32 → St → Option (Int32 × St)) i (s : St) => k (nI i) s) _ _ 7 (by decide) (fun i _ => pL (ad 8) (ad 1) 7 (TX A K (i + 1)) U 0) (fun s => lt (gI s (ad 1) 7) fun (v16 : Int32) => some (v16, s)) (fun i s => s = pL (ad 8) (ad 1) 7 (TX A K i) U 0) U rfl ?_ (fun _ _ _ _ => rfl) ?_).trans ?_
  · rintro k i s hi rfl
    rw [if_neg (ge7 hi)]
    exact R_fpart h2 hK hi (by omega) (by omega) z7 (hA i hi) k
  · rintro k s rfl
    rw [if_pos le7]
  · show (lt (gI (pL (ad 8) (ad 1) 7 (TX A K 7) U 0) (ad 1) 7) fun v16 => some (v16, pL (ad 8) (ad 1) 7 (TX A K 7) U 0)) = _
    rw [lt_n, cn_pL (n8_1 h.1) 7 _ U 0 z7, Nat.zero_add]
theorem C_format (c : CV S ad b v np nf no mo) {A : Nat → Int64} {K : Nat → Nat} (hK : ∀ i, OKK (A i) (K i)) {f m : Nat} (hf : f < nf) (hm : m < mo) (hA : ∀ i, i < 7 → A i = v (1694 + 7 * (8 * m + f) + i)) : f_X4_write S (ad 14) (ad (b + 6)) (nI f) (nI m) = some (pL (ad 15) (ad 14) 1 (TX A K 7) (uI S (ad 14) 1 0) 0) := by
  have hb := c.2.1
  have t1 : TR (uI S (ad 14) 1 0) ad := TR_SR0 (SR0_uI _ _ _ _) c.t
  have z : gI (uI S (ad 14) 1 0) (ad 14) 1 = nI 0 := by rw [gI_uI, if_pos ⟨rfl, rfl⟩]; rfl
  have cv : ∀ i, CV (pL (ad 15) (ad 14) 1 (TX A K i) (uI S (ad 14) 1 0) 0) ad b v np nf no mo := fun i => by
    refine CV_c ((SR0_uI _ _ _ _).trans (SR0_pL _ _ _ _ _ _)) (fun q hq l => ⟨?_, by rw [gJ_pL]; rfl⟩) c
    rw [gI_pL (n15_14 c.t), if_neg (fun e => absurd ((c.t.1 _ _).mp e.1) (by omega)), if_neg (fun e => absurd ((c.t.1 _ _).mp e.1) (by omega)), gI_i c.t.1, if_neg (by omega)]
  have st : ∀ i, i < 7 → f_X0_invoicePart (pL (ad 15) (ad 14) 1 (TX A K i) (uI S (ad 14) 1 0) 0) (ad (b + 6)) (nI f) (nI m) (nI i) = some (A i) := fun i hi => by rw [C_invPart (cv i) hf hm hi, hA i hi]
  have pt : ∀ i, i < 7 → f_X4_addPart (pL (ad 15) (ad 14) 1 (TX A K i) (uI S (ad 14) 1 0) 0) (ad 14) (19 + i) (A i) = some (pL (ad 15) (ad 14) 1 (TX A K (i + 1)) (uI S (ad 14) 1 0) 0) := fun i hi => C_fpart t1 hK hi z
  unfold f_X4_write
  rw [lt_n]
  rw [show f_X0_invoicePart (uI S (ad 14) 1 0) (ad (b + 6)) (nI f) (nI m) 0 = some (A 0) from st 0 (by decide), cl_n]
  rw [show f_X4_addPart (uI S (ad 14) 1 0) (ad 14) 19 (A 0) = some (pL (ad 15) (ad 14) 1 (TX A K 1) (uI S (ad 14) 1 0) 0) from pt 0 (by decide), cl_n]
  rw [show f_X0_invoicePart (pL (ad 15) (ad 14) 1 (TX A K 1) (uI S (ad 14) 1 0) 0) (ad (b + 6)) (nI f) (nI m) 1 = some (A 1) from st 1 (by decide), cl_n]
  rw [show f_X4_addPart (pL (ad 15) (ad 14) 1 (TX A K 1) (uI S (ad 14) 1 0) 0) (ad 14) 20 (A 1) = some (pL (ad 15) (ad 14) 1 (TX A K 2) (uI S (ad 14) 1 0) 0) from pt 1 (by decide), cl_n]
  rw [show f_X0_invoicePart (pL (ad 15) (ad 14) 1 (TX A K 2) (uI S (ad 14) 1 0) 0) (ad (b + 6)) (nI f) (nI m) 2 = some (A 2) from st 2 (by decide), cl_n]
  rw [show f_X4_addPart (pL (ad 15) (ad 14) 1 (TX A K 2) (uI S (ad 14) 1 0) 0) (ad 14) 21 (A 2) = some (pL (ad 15) (ad 14) 1 (TX A K 3) (uI S (ad 14) 1 0) 0) from pt 2 (by decide), cl_n]
  rw [show f_X0_invoicePart (pL (ad 15) (ad 14) 1 (TX A K 3) (uI S (ad 14) 1 0) 0) (ad (b + 6)) (nI f) (nI m) 3 = some (A 3) from st 3 (by decide), cl_n]
  rw [show f_X4_addPart (pL (ad 15) (ad 14) 1 (TX A K 3) (uI S (ad 14) 1 0) 0) (ad 14) 22 (A 3) = some (pL (ad 15) (ad 14) 1 (TX A K 4) (uI S (ad 14) 1 0) 0) from pt 3 (by decide), cl_n]
  rw [show f_X0_invoicePart (pL (ad 15) (ad 14) 1 (TX A K 4) (uI S (ad 14) 1 0) 0) (ad (b + 6)) (nI f) (nI m) 4 = some (A 4) from st 4 (by decide), cl_n]
  rw [show f_X4_addPart (pL (ad 15) (ad 14) 1 (TX A K 4) (uI S (ad 14) 1 0) 0) (ad 14) 23 (A 4) = some (pL (ad 15) (ad 14) 1 (TX A K 5) (uI S (ad 14) 1 0) 0) from pt 4 (by decide), cl_n]
  rw [show f_X0_invoicePart (pL (ad 15) (ad 14) 1 (TX A K 5) (uI S (ad 14) 1 0) 0) (ad (b + 6)) (nI f) (nI m) 5 = some (A 5) from st 5 (by decide), cl_n]
  rw [show f_X4_addPart (pL (ad 15) (ad 14) 1 (TX A K 5) (uI S (ad 14) 1 0) 0) (ad 14) 24 (A 5) = some (pL (ad 15) (ad 14) 1 (TX A K 6) (uI S (ad 14) 1 0) 0) from pt 5 (by decide), cl_n]
  rw [show f_X0_invoicePart (pL (ad 15) (ad 14) 1 (TX A K 6) (uI S (ad 14) 1 0) 0) (ad (b + 6)) (nI f) (nI m) 6 = some (A 6) from st 6 (by decide), cl_n]
  rw [show f_X4_addPart (pL (ad 15) (ad 14) 1 (TX A K 6) (uI S (ad 14) 1 0) 0) (ad 14) 25 (A 6) = some (pL (ad 15) (ad 14) 1 (TX A K 7) (uI S (ad 14) 1 0) 0) from pt 6 (by decide), cl_n]
theorem W_61 : StpW ad f_law_61 := by
  intro Ls xs S c i ⟨b, d, j, k, v, np, nf, no, mo, r⟩ hi hL hc
  have cv := r.1
  have t := cv.t
  have hb := cv.2.1
  have hf8 := cv.hf
  have hm60 := cv.hm
  have jb := r.jb
  unfold JBB at jb
  have s1 : ∀ (β : Type) (k : Int32 → Option β), sx Ls xs (nI i + 1) k = k (xs (i + 1)) := fun β k => by rw [da1, sx_at hL (by omega)]
  have s2 : ∀ (β : Type) (k : Int32 → Option β), sx Ls xs (nI i + 2) k = k (xs (i + 2)) := fun β k => by rw [da2, sx_at hL (by omega)]
  generalize xs (i + 1) = p at s1
  generalize xs (i + 2) = q at s2
  cases hB : vin p nf
  · have hx : f_X11_formatInvoice S (ad 0) p q = some (.inr 1) := by simp [f_X11_formatInvoice, C_reqF cv, hB, clx_r]
    have hz : f_X12_formatInvoice S (ad 1) p q = some (0, uI S (ad 1) 2 1) := by
      unfold f_X12_formatInvoice
      rw [lt_n, M_isFr (Mv_t r.m (ad 1) 2 0), hB, cl_n, jn_n]
      simp only [if_bI, Bool.false_eq_true, if_false, M_throws1, cl_n, uI_uI, i10]
    refine ⟨_, c + 1, REL_t r 1, Nat.le_refl _, fun kont => ?_⟩
    simp only [f_law_61, f_L_formatInvoice, s1, s2, hx, hz, clc_r, cl_s, bud_ok hc, thrown_e, jn_e, if_true, if_false, Nat.add_zero, reduceIte, i10, i20, i30, n21, n31, n32]
  · cases hC : vin q mo
    · have hx : f_X11_formatInvoice S (ad 0) p q = some (.inr 2) := by simp [f_X11_formatInvoice, C_reqF cv, hB, clx_l, C_reqM cv, hC, clx_r]
      have hz : f_X12_formatInvoice S (ad 1) p q = some (0, uI S (ad 1) 2 2) := by
        unfold f_X12_formatInvoice
        rw [lt_n, M_isFr (Mv_t r.m (ad 1) 2 0), hB, cl_n, jn_n]
        simp only [if_bI, if_true, M_throws0, cl_n, M_isCl (Mv_t r.m (ad 1) 2 0), hC]
        refine (jn_n _ _).trans ?_
        simp only [Bool.false_eq_true, if_false, M_throws1, cl_n, uI_uI, i10]
      refine ⟨_, c + 1, REL_t r 2, Nat.le_refl _, fun kont => ?_⟩
      simp only [f_law_61, f_L_formatInvoice, s1, s2, hx, hz, clc_r, cl_s, bud_ok hc, thrown_e, jn_e, if_true, if_false, Nat.add_zero, reduceIte, i10, i20, i30, n21, n31, n32]
    · obtain ⟨f, hf, rfl⟩ := vin_of (by omega) hB
      obtain ⟨m, hm, rfl⟩ := vin_of (by omega) hC
      obtain ⟨A, hA⟩ : ∃ A : Nat → Int64, ∀ l, A l = v (1694 + 7 * (8 * m + f) + l) := ⟨_, fun _ => rfl⟩
      obtain ⟨K, hK⟩ : ∃ K : Nat → Nat, ∀ l, OKK (A l) (K l) := ⟨fun l => Classical.choose (OKK_ex (A l)), fun l => Classical.choose_spec (OKK_ex (A l))⟩
      have hlen := TX_len hK 7 (Nat.le_refl _)
      have hw := C_format cv hK hf hm (fun l _ => hA l)
      have hr := fun (Y : St) (h : Mv Y ad v np nf no mo) => R_format h hK hf hm (fun l _ => hA l)
      generalize TX A K 7 = L at hlen hw hr
      have t0 : TR (uI S (ad 14) 1 0) ad := TR_SR0 (SR0_uI _ _ _ _) t
      have z0 : gI (uI S (ad 14) 1 0) (ad 14) 1 = nI 0 := by rw [gI_uI, if_pos ⟨rfl, rfl⟩]; rfl
      have t1 : TR (pL (ad 15) (ad 14) 1 L (uI S (ad 14) 1 0) 0) ad := TR_SR0 (SR0_pL _ _ _ _ _ _) t0
      have hx : f_X11_formatInvoice S (ad 0) (nI f) (nI m) = some (.inl (nI L.length, pL (ad 15) (ad 14) 1 L (uI S (ad 14) 1 0) 0)) := by
        simp only [f_X11_formatInvoice, C_reqF cv, hB, if_true, clx_l, C_reqM cv, hC, lt_n, r_0_1 t, cv.r, r_b0_5 t cv.hb, hw, cl_n, r_0_1 t1, cn_pL (n15_14 t) 1 L _ 0 z0, Nat.zero_add]
      have m1 : Mv (pL (ad 15) (ad 14) 1 L (uI S (ad 14) 1 0) 0) ad v np nf no mo := Mv_pL (Mv_t r.m (ad 14) 1 0) _ _ _ L 0
      have m2 := Mv_o m1 0 (nI L.length).toInt64
      have hz := hr _ m2
      generalize hS2 : uJ (pL (ad 15) (ad 14) 1 L (uI S (ad 14) 1 0) 0) (ad 2) 0 (nI L.length).toInt64 = S2 at m2 hz
      generalize hS3 : pL (ad 8) (ad 1) 7 L (uI (uI S2 (ad 1) 2 0) (ad 1) 7 0) 0 = S3 at hz
      have rI : ∀ p l, gI S3 (ad p) l = if p = 8 ∧ 0 ≤ l ∧ l < 0 + L.length then nbB (L.getD (l - 0) 0) else if p = 1 ∧ l = 7 ∧ 0 < L.length then nI (0 + L.length) else if p = 1 ∧ l = 7 then 0 else if p = 1 ∧ l = 2 then 0 else if p = 15 ∧ 0 ≤ l ∧ l < 0 + L.length then nbB (L.getD (l - 0) 0) else if p = 14 ∧ l = 1 ∧ 0 < L.length then nI (0 + L.length) else if p = 14 ∧ l = 1 then 0 else gI S (ad p) l := fun p l => by
        rw [← hS3, ← hS2, gI_pL (n8_1 t), gI_i t.1, gI_i t.1, gI_uJ, gI_pL (n15_14 t), gI_i t.1]
        simp only [t.1]
      have rJ : ∀ p l, p ≠ 2 → gJ S3 (ad p) l = gJ S (ad p) l := fun p l hp => by
        rw [← hS3, ← hS2, gJ_pL, gJ_uI, gJ_uI, gJ_i t.1, if_neg (fun e => hp e.1), gJ_pL]; rfl
      have sr : SR0 S S3 := by
        rw [← hS3, ← hS2]
        exact ((((((SR0_uI _ _ _ _).trans (SR0_pL _ _ _ _ _ _)).trans (SR0_uJ _ _ _ _)).trans (SR0_uI _ _ _ _)).trans (SR0_uI _ _ _ _)).trans (SR0_pL _ _ _ _ _ _))
      have far : ∀ p l, p ≠ 1 → p ≠ 8 → p ≠ 14 → p ≠ 15 → gI S3 (ad p) l = gI S (ad p) l := fun p l h1 h8 h14 h15 => by
        rw [rI, if_neg (by omega), if_neg (by omega), if_neg (by omega), if_neg (by omega), if_neg (by omega), if_neg (by omega), if_neg (by omega)]
      have f1 : ∀ l, l ≠ 2 → l ≠ 7 → gI S3 (ad 1) l = gI S (ad 1) l := fun l h2 h7 => by
        rw [rI, if_neg (by omega), if_neg (by omega), if_neg (by omega), if_neg (by omega), if_neg (by omega), if_neg (by omega), if_neg (by omega)]
      have l7 : gI S3 (ad 1) 7 = nI L.length := by
        rw [rI, if_neg (by omega)]
        by_cases h0 : 0 < L.length
        · rw [if_pos ⟨rfl, rfl, h0⟩, Nat.zero_add]
        · rw [if_neg (fun e => h0 e.2.2), if_pos ⟨rfl, rfl⟩, show L.length = 0 by omega]; rfl
      have l14 : gI S3 (ad 14) 1 = nI L.length := by
        rw [rI, if_neg (by omega), if_neg (by omega), if_neg (by omega), if_neg (by omega), if_neg (by omega)]
        by_cases h0 : 0 < L.length
        · rw [if_pos ⟨rfl, rfl, h0⟩, Nat.zero_add]
        · rw [if_neg (fun e => h0 e.2.2), if_pos ⟨rfl, rfl⟩, show L.length = 0 by omega]; rfl
      refine ⟨S3, c, ⟨b, d, j, k, v, np, nf, no, mo, RE_io r sr (fun p hp hnp l => ?_) (f1 19 (by decide) (by decide)) (f1 20 (by decide) (by decide)) ?_ ?_ ?_⟩, by omega, fun kont => ?_⟩
      · have h1 : p ≠ 1 := by rintro rfl; exact RC_not r.jb (Or.inl rfl) hp
        have h2 : p ≠ 2 := by rintro rfl; exact RC_not r.jb (by omega) hp
        exact ⟨far p l h1 (by omega) (by omega) (by omega), rJ p l h2⟩
      · obtain ⟨n, hn, i1, i2, i3⟩ := r.ip
        exact ⟨n, hn, (far 12 1 (by decide) (by decide) (by decide) (by decide)).trans i1, (f1 9 (by decide) (by decide)).trans i2, fun l hl => by rw [far 13 l (by decide) (by decide) (by decide) (by decide), far 9 l (by decide) (by decide) (by decide) (by decide)]; exact i3 l hl⟩
      · obtain ⟨e1, e2⟩ := r.er
        exact ⟨by rw [far 0 9 (by decide) (by decide) (by decide) (by decide), f1 11 (by decide) (by decide)]; exact e1, by rw [far 0 10 (by decide) (by decide) (by decide) (by decide), f1 12 (by decide) (by decide)]; exact e2⟩
      · refine ⟨L.length, by omega, l14, l7, fun l hl => ?_⟩
        rw [rI, rI, if_neg (show ¬ (15 = 8 ∧ 0 ≤ l ∧ l < 0 + L.length) by omega), if_neg (by omega), if_neg (by omega), if_neg (by omega), if_pos ⟨rfl, by omega, by omega⟩, if_pos ⟨rfl, by omega, by omega⟩]
      · have ht : f_X12_thrown S3 (ad 1) = some 0 := by
          have : gI S3 (ad 1) 2 = 0 := by rw [rI, if_neg (by omega), if_neg (by omega), if_neg (by omega), if_pos ⟨rfl, rfl⟩]
          simp [f_X12_thrown, lt_e, this]
        have t3 : TR S3 ad := TR_SR0 sr t
        have hl : ∀ (β : Type) (k : Int64 → Option β), ldJ S3 (ad 2) 0 k = k (nI L.length).toInt64 := fun β k => by
          refine (ldJ_at (n := 0) (by rw [n_2 t3]; decide) (by rw [n_2 t3]; decide)).trans ?_
          rw [← hS3, gJ_pL, gJ_uI, gJ_uI, ← hS2, gJ_uJ, if_pos ⟨rfl, rfl⟩]
        simp only [f_law_61, f_L_formatInvoice, s1, s2, hx, hS2, hz, clc_l, cl_s, bud_ok (show c ≤ 512 by omega), ht, jn_e, st_o t1, hl, if_true, if_false, Nat.add_zero, reduceIte, i10, i20, i30, n21, n31, n32]
