/-! the pure part: the parts of an entry of the journal, the ledger -/
variable {S S0 S1 S2 S' S'' S3 X Y : St} {ad : Nat → Nat} {b d j k : Nat} {v v0 v' v1 v2 u w : Nat → Int64} {np nf no mo no' mo' x y : Nat}
/-- only the cell s of the arrays of the journal k changed, and the tokens -/
def JW (S S' : St) (ad : Nat → Nat) (k s : Nat) : Prop := SR0 S S' ∧ (∀ p, p ≠ 12 → ¬ (k + 1 ≤ p ∧ p ≤ k + 7) → Ag S S' ad p) ∧ ∀ p l, p ≠ 12 → l ≠ s → gI S' (ad p) l = gI S (ad p) l ∧ gJ S' (ad p) l = gJ S (ad p) l
theorem JW.rf {s : Nat} : JW S S ad k s := ⟨SR0.rf S, fun _ _ _ _ => ⟨rfl, rfl⟩, fun _ _ _ _ => ⟨rfl, rfl⟩⟩
theorem JW.tr {s : Nat} (h : JW S S' ad k s) (h2 : JW S' S'' ad k s) : JW S S'' ad k s := ⟨h.1.trans h2.1, fun p h1 hn => (h.2.1 p h1 hn).trans (h2.2.1 p h1 hn), fun p l h1 hl => ⟨(h2.2.2 p l h1 hl).1.trans (h.2.2 p l h1 hl).1, (h2.2.2 p l h1 hl).2.trans (h.2.2 p l h1 hl).2⟩⟩
theorem JW_k {s : Nat} (h : KCx S S' ad P12) : JW S S' ad k s := ⟨h.1, fun p h1 _ => h.2 p h1, fun p l h1 _ => h.2 p h1 l⟩
theorem JW_I {s q : Nat} (t : TR S ad) (hq : 1 ≤ q ∧ q ≤ 7) (w : Int32) : JW S (uI S (ad (k + q)) s w) ad k s := ⟨SR0_uI _ _ _ _, fun p _ hn => Ag_uI t (fun z => hn (by omega)), fun p l _ hl => ⟨by rw [gI_uI, if_neg (fun z => hl z.2)], rfl⟩⟩
theorem JW_J {s q : Nat} (t : TR S ad) (hq : 1 ≤ q ∧ q ≤ 7) (w : Int64) : JW S (uJ S (ad (k + q)) s w) ad k s := ⟨SR0_uJ _ _ _ _, fun p _ hn => Ag_uJ t (fun z => hn (by omega)), fun p l _ hl => ⟨rfl, by rw [gJ_uJ, if_neg (fun z => hl z.2)]⟩⟩
def PJ (k p : Nat) : Prop := k + 1 ≤ p ∧ p ≤ k + 7
theorem LGs_I {B : Nat → Int32} {n e s q : Nat} {z : Option (Nat × Nat)} (h : LGs S ad B n e z) (hk : JB k) (hq : 1 ≤ q ∧ q ≤ 7) (w : Int32) : LGs (uI S (ad (k + q)) s w) ad B n e z := LGs_c (P := PJ k) (KCx_uI h.1.1 (by unfold PJ; omega)) (by unfold PJ JB at *; omega) (by unfold PJ JB at *; omega) h
theorem LGs_J {B : Nat → Int32} {n e s q : Nat} {z : Option (Nat × Nat)} (h : LGs S ad B n e z) (hk : JB k) (hq : 1 ≤ q ∧ q ≤ 7) (w : Int64) : LGs (uJ S (ad (k + q)) s w) ad B n e z := LGs_c (P := PJ k) (KCx_uJ h.1.1 (by unfold PJ; omega)) (by unfold PJ JB at *; omega) (by unfold PJ JB at *; omega) h
theorem narB (x : Bool) : vp_nar .boolean (bI x) = bI x := by cases x <;> decide
theorem KC7 (h : KCx S S' ad P12) (hk : JB k) {w : Int32} (g : gI S (ad k) 7 = w) : gI S' (ad k) 7 = w := ((h.2 k (by unfold P12 JB at *; omega) 7).1).trans g
theorem LA0 {B : Nat → Int32} {n e s : Nat} {q : Option (Nat × Nat)} (h : LGs S ad B n e q) (hk : JB k) (hs : s < 40) (g7 : gI S (ad k) 7 = nI s) (g0 : gI S (ad (k + 1)) s = 0) (hb : BB b) (h8 : nf ≤ 8) (ax : AXN S ad b v nf) : ∃ S', f_X5_readArguments S (ad k) (ad 12) (ad (b + 4)) = some S' ∧ JW S S' ad k s ∧ LGs S' ad B n (tkR B n (tkR B n e)) (qor q (eA0 B n e v nf)) ∧ gI S' (ad (k + 1)) s = 0 ∧ (gI S' (ad (k + 2)) s = (nI (vNum B n e 0 15)) ∧ gJ S' (ad (k + 7)) s = Int32.toInt64 (nI (vNum B n (tkR B n e) 0 100000)) * 100) := by
  have hk' : k = 22 ∨ k = 30 := hk
  have t0 := h.1.1
  obtain ⟨A1, a1, b1, c1⟩ := L_num h (a := 0) (by omega) 15 (i := 0) rfl
  have u1 := b1.t t0
  have l1 := LGs_I (s := s) c1.ls hk (q := 2) (by omega) ((nI (vNum B n e 0 15)))
  have t1 := l1.1.1
  have e1 : gI (uI A1 (ad (k + 2)) s (nI (vNum B n e 0 15))) (ad k) 7 = nI s := ((Ag_uI u1 (by omega) 7).1).trans (KC7 b1 hk g7)
  obtain ⟨A2, a2, b2, c2⟩ := L_num l1 (a := 0) (by omega) 100000 (i := 0) rfl
  have u2 := b2.t t1
  have l2 := LGs_J (s := s) c2.ls hk (q := 7) (by omega) (Int32.toInt64 (nI (vNum B n (tkR B n e) 0 100000)) * 100)
  have t2 := l2.1.1
  have e2 : gI (uJ A2 (ad (k + 7)) s (Int32.toInt64 (nI (vNum B n (tkR B n e) 0 100000)) * 100)) (ad k) 7 = nI s := ((Ag_uJ u2 (by omega) 7).1).trans (KC7 b2 hk e1)
  refine ⟨(uJ A2 (ad (k + 7)) s (Int32.toInt64 (nI (vNum B n (tkR B n e) 0 100000)) * 100)), ?_, ((JW.rf).tr ((JW_k b1).tr (JW_I u1 (by omega) _))).tr ((JW_k b2).tr (JW_J u2 (by omega) _)), by rw [eA0]; simp only [← qor_a, qor_n]; exact l2, ((Ag_uJ u2 (by omega) s).1).trans (((b2.2 (k + 1) (by unfold P12; omega) s).1).trans (((Ag_uI u1 (by omega) s).1).trans (((b1.2 (k + 1) (by unfold P12; omega) s).1).trans (g0)))), ⟨((Ag_uJ u2 (by omega) s).1).trans (((b2.2 (k + 2) (by unfold P12; omega) s).1).trans ((show gI (uI A1 (ad (k + 2)) s (nI (vNum B n e 0 15))) (ad (k + 2)) s = (nI (vNum B n e 0 15)) by rw [gI_uI, if_pos ⟨rfl, rfl⟩]))), by rw [gJ_uJ, if_pos ⟨rfl, rfl⟩]⟩⟩
  simp only [f_X5_readArguments, lt_n, r_j_0 t0 hk, g7, lj1 t0 hk hs, g0, jn_n, if_true, if_false, dk01, dk02, dk03, dk04, dk05, cl_n, narB, r_j_1 t0 hk, a1, sj2 u1 hk hs, r_j_6 t1 hk, a2, sj7 u2 hk hs, e1]
theorem LA1 {B : Nat → Int32} {n e s : Nat} {q : Option (Nat × Nat)} (h : LGs S ad B n e q) (hk : JB k) (hs : s < 40) (g7 : gI S (ad k) 7 = nI s) (g0 : gI S (ad (k + 1)) s = 1) (hb : BB b) (h8 : nf ≤ 8) (ax : AXN S ad b v nf) : ∃ S', f_X5_readArguments S (ad k) (ad 12) (ad (b + 4)) = some S' ∧ JW S S' ad k s ∧ LGs S' ad B n (tkR B n (tkR B n (tkR B n (tkR B n e)))) (qor q (eA1 B n e v nf)) ∧ gI S' (ad (k + 1)) s = 1 ∧ (gI S' (ad (k + 2)) s = (nI (vNum B n e 0 15)) ∧ gI S' (ad (k + 3)) s = (nI (vNum B n (tkR B n e) 0 29)) ∧ gI S' (ad (k + 4)) s = (nI (vNum B n (tkR B n (tkR B n e)) 0 29)) ∧ gJ S' (ad (k + 7)) s = Int32.toInt64 (nI (vNum B n (tkR B n (tkR B n (tkR B n e))) 1 100000)) * 100) := by
  have hk' : k = 22 ∨ k = 30 := hk
  have t0 := h.1.1
  obtain ⟨A1, a1, b1, c1⟩ := L_num h (a := 0) (by omega) 15 (i := 0) rfl
  have u1 := b1.t t0
  have l1 := LGs_I (s := s) c1.ls hk (q := 2) (by omega) ((nI (vNum B n e 0 15)))
  have t1 := l1.1.1
  have e1 : gI (uI A1 (ad (k + 2)) s (nI (vNum B n e 0 15))) (ad k) 7 = nI s := ((Ag_uI u1 (by omega) 7).1).trans (KC7 b1 hk g7)
  obtain ⟨A2, a2, b2, c2⟩ := L_num l1 (a := 0) (by omega) 29 (i := 0) rfl
  have u2 := b2.t t1
  have l2 := LGs_I (s := s) c2.ls hk (q := 3) (by omega) ((nI (vNum B n (tkR B n e) 0 29)))
  have t2 := l2.1.1
  have e2 : gI (uI A2 (ad (k + 3)) s (nI (vNum B n (tkR B n e) 0 29))) (ad k) 7 = nI s := ((Ag_uI u2 (by omega) 7).1).trans (KC7 b2 hk e1)
  obtain ⟨A3, a3, b3, c3⟩ := L_num l2 (a := 0) (by omega) 29 (i := 0) rfl
  have u3 := b3.t t2
  have l3 := LGs_I (s := s) c3.ls hk (q := 4) (by omega) ((nI (vNum B n (tkR B n (tkR B n e)) 0 29)))
  have t3 := l3.1.1
  have e3 : gI (uI A3 (ad (k + 4)) s (nI (vNum B n (tkR B n (tkR B n e)) 0 29))) (ad k) 7 = nI s := ((Ag_uI u3 (by omega) 7).1).trans (KC7 b3 hk e2)
  obtain ⟨A4, a4, b4, c4⟩ := L_num l3 (a := 1) (by omega) 100000 (i := 1) rfl
  have u4 := b4.t t3
  have l4 := LGs_J (s := s) c4.ls hk (q := 7) (by omega) (Int32.toInt64 (nI (vNum B n (tkR B n (tkR B n (tkR B n e))) 1 100000)) * 100)
  have t4 := l4.1.1
  have e4 : gI (uJ A4 (ad (k + 7)) s (Int32.toInt64 (nI (vNum B n (tkR B n (tkR B n (tkR B n e))) 1 100000)) * 100)) (ad k) 7 = nI s := ((Ag_uJ u4 (by omega) 7).1).trans (KC7 b4 hk e3)
  refine ⟨(uJ A4 (ad (k + 7)) s (Int32.toInt64 (nI (vNum B n (tkR B n (tkR B n (tkR B n e))) 1 100000)) * 100)), ?_, ((((JW.rf).tr ((JW_k b1).tr (JW_I u1 (by omega) _))).tr ((JW_k b2).tr (JW_I u2 (by omega) _))).tr ((JW_k b3).tr (JW_I u3 (by omega) _))).tr ((JW_k b4).tr (JW_J u4 (by omega) _)), by rw [eA1]; simp only [← qor_a, qor_n]; exact l4, ((Ag_uJ u4 (by omega) s).1).trans (((b4.2 (k + 1) (by unfold P12; omega) s).1).trans (((Ag_uI u3 (by omega) s).1).trans (((b3.2 (k + 1) (by unfold P12; omega) s).1).trans (((Ag_uI u2 (by omega) s).1).trans (((b2.2 (k + 1) (by unfold P12; omega) s).1).trans (((Ag_uI u1 (by omega) s).1).trans (((b1.2 (k + 1) (by unfold P12; omega) s).1).trans (g0)))))))), ⟨((Ag_uJ u4 (by omega) s).1).trans (((b4.2 (k + 2) (by unfold P12; omega) s).1).trans (((Ag_uI u3 (by omega) s).1).trans (((b3.2 (k + 2) (by unfold P12; omega) s).1).trans (((Ag_uI u2 (by omega) s).1).trans (((b2.2 (k + 2) (by unfold P12; omega) s).1).trans ((show gI (uI A1 (ad (k + 2)) s (nI (vNum B n e 0 15))) (ad (k + 2)) s = (nI (vNum B n e 0 15)) by rw [gI_uI, if_pos ⟨rfl, rfl⟩]))))))), ((Ag_uJ u4 (by omega) s).1).trans (((b4.2 (k + 3) (by unfold P12; omega) s).1).trans (((Ag_uI u3 (by omega) s).1).trans (((b3.2 (k + 3) (by unfold P12; omega) s).1).trans ((show gI (uI A2 (ad (k + 3)) s (nI (vNum B n (tkR B n e) 0 29))) (ad (k + 3)) s = (nI (vNum B n (tkR B n e) 0 29)) by rw [gI_uI, if_pos ⟨rfl, rfl⟩]))))), ((Ag_uJ u4 (by omega) s).1).trans (((b4.2 (k + 4) (by unfold P12; omega) s).1).trans ((show gI (uI A3 (ad (k + 4)) s (nI (vNum B n (tkR B n (tkR B n e)) 0 29))) (ad (k + 4)) s = (nI (vNum B n (tkR B n (tkR B n e)) 0 29)) by rw [gI_uI, if_pos ⟨rfl, rfl⟩]))), by rw [gJ_uJ, if_pos ⟨rfl, rfl⟩]⟩⟩
  simp only [f_X5_readArguments, lt_n, r_j_0 t0 hk, g7, lj1 t0 hk hs, g0, jn_n, if_true, if_false, dk10, dk12, dk13, dk14, dk15, cl_n, narB, r_j_1 t0 hk, a1, sj2 u1 hk hs, r_j_2 t1 hk, a2, sj3 u2 hk hs, e1, r_j_3 t2 hk, a3, sj4 u3 hk hs, e2, r_j_6 t3 hk, a4, sj7 u4 hk hs, e3]
theorem LA2 {B : Nat → Int32} {n e s : Nat} {q : Option (Nat × Nat)} (h : LGs S ad B n e q) (hk : JB k) (hs : s < 40) (g7 : gI S (ad k) 7 = nI s) (g0 : gI S (ad (k + 1)) s = 2) (hb : BB b) (h8 : nf ≤ 8) (ax : AXN S ad b v nf) : ∃ S', f_X5_readArguments S (ad k) (ad 12) (ad (b + 4)) = some S' ∧ JW S S' ad k s ∧ LGs S' ad B n (tkR B n (tkR B n e)) (qor q (eA2 B n e v nf)) ∧ gI S' (ad (k + 1)) s = 2 ∧ ((eNm B n e v nf true = none → gI S' (ad (k + 2)) s = nmX B n e v nf) ∧ gJ S' (ad (k + 7)) s = Int32.toInt64 (nI (vNum B n (tkR B n e) 1 999999)) * 100) := by
  have hk' : k = 22 ∨ k = 30 := hk
  have t0 := h.1.1
  obtain ⟨wn, A1, a1, b1, c1, -, hwn⟩ := L_name (nf := nf) (u := v) h hb h8 ax true (p2 := 1) rfl
  have u1 := b1.t t0
  have l1 := LGs_I (s := s) c1.ls hk (q := 2) (by omega) (wn)
  have t1 := l1.1.1
  have e1 : gI (uI A1 (ad (k + 2)) s wn) (ad k) 7 = nI s := ((Ag_uI u1 (by omega) 7).1).trans (KC7 b1 hk g7)
  obtain ⟨A2, a2, b2, c2⟩ := L_num l1 (a := 1) (by omega) 999999 (i := 1) rfl
  have u2 := b2.t t1
  have l2 := LGs_J (s := s) c2.ls hk (q := 7) (by omega) (Int32.toInt64 (nI (vNum B n (tkR B n e) 1 999999)) * 100)
  have t2 := l2.1.1
  have e2 : gI (uJ A2 (ad (k + 7)) s (Int32.toInt64 (nI (vNum B n (tkR B n e) 1 999999)) * 100)) (ad k) 7 = nI s := ((Ag_uJ u2 (by omega) 7).1).trans (KC7 b2 hk e1)
  refine ⟨(uJ A2 (ad (k + 7)) s (Int32.toInt64 (nI (vNum B n (tkR B n e) 1 999999)) * 100)), ?_, ((JW.rf).tr ((JW_k b1).tr (JW_I u1 (by omega) _))).tr ((JW_k b2).tr (JW_J u2 (by omega) _)), by rw [eA2]; simp only [← qor_a, qor_n]; exact l2, ((Ag_uJ u2 (by omega) s).1).trans (((b2.2 (k + 1) (by unfold P12; omega) s).1).trans (((Ag_uI u1 (by omega) s).1).trans (((b1.2 (k + 1) (by unfold P12; omega) s).1).trans (g0)))), ⟨fun zz => ((Ag_uJ u2 (by omega) s).1).trans (((b2.2 (k + 2) (by unfold P12; omega) s).1).trans ((show gI (uI A1 (ad (k + 2)) s wn) (ad (k + 2)) s = nmX B n e v nf by rw [gI_uI, if_pos ⟨rfl, rfl⟩]; exact hwn zz))), by rw [gJ_uJ, if_pos ⟨rfl, rfl⟩]⟩⟩
  simp only [f_X5_readArguments, lt_n, r_j_0 t0 hk, g7, lj1 t0 hk hs, g0, jn_n, if_true, if_false, dk20, dk21, dk23, dk24, dk25, cl_n, narB, r_j_1 t0 hk, a1, sj2 u1 hk hs, r_j_6 t1 hk, a2, sj7 u2 hk hs, e1]
theorem LA3 {B : Nat → Int32} {n e s : Nat} {q : Option (Nat × Nat)} (h : LGs S ad B n e q) (hk : JB k) (hs : s < 40) (g7 : gI S (ad k) 7 = nI s) (g0 : gI S (ad (k + 1)) s = 3) (hb : BB b) (h8 : nf ≤ 8) (ax : AXN S ad b v nf) : ∃ S', f_X5_readArguments S (ad k) (ad 12) (ad (b + 4)) = some S' ∧ JW S S' ad k s ∧ LGs S' ad B n (tkR B n (tkR B n e)) (qor q (eA3 B n e v nf)) ∧ gI S' (ad (k + 1)) s = 3 ∧ ((eNm B n e v nf true = none → gI S' (ad (k + 2)) s = nmX B n e v nf) ∧ gJ S' (ad (k + 7)) s = Int32.toInt64 (nI (vNum B n (tkR B n e) 1 999999)) * 100) := by
  have hk' : k = 22 ∨ k = 30 := hk
  have t0 := h.1.1
  obtain ⟨wn, A1, a1, b1, c1, -, hwn⟩ := L_name (nf := nf) (u := v) h hb h8 ax true (p2 := 1) rfl
  have u1 := b1.t t0
  have l1 := LGs_I (s := s) c1.ls hk (q := 2) (by omega) (wn)
  have t1 := l1.1.1
  have e1 : gI (uI A1 (ad (k + 2)) s wn) (ad k) 7 = nI s := ((Ag_uI u1 (by omega) 7).1).trans (KC7 b1 hk g7)
  obtain ⟨A2, a2, b2, c2⟩ := L_num l1 (a := 1) (by omega) 999999 (i := 1) rfl
  have u2 := b2.t t1
  have l2 := LGs_J (s := s) c2.ls hk (q := 7) (by omega) (Int32.toInt64 (nI (vNum B n (tkR B n e) 1 999999)) * 100)
  have t2 := l2.1.1
  have e2 : gI (uJ A2 (ad (k + 7)) s (Int32.toInt64 (nI (vNum B n (tkR B n e) 1 999999)) * 100)) (ad k) 7 = nI s := ((Ag_uJ u2 (by omega) 7).1).trans (KC7 b2 hk e1)
  refine ⟨(uJ A2 (ad (k + 7)) s (Int32.toInt64 (nI (vNum B n (tkR B n e) 1 999999)) * 100)), ?_, ((JW.rf).tr ((JW_k b1).tr (JW_I u1 (by omega) _))).tr ((JW_k b2).tr (JW_J u2 (by omega) _)), by rw [eA3]; simp only [← qor_a, qor_n]; exact l2, ((Ag_uJ u2 (by omega) s).1).trans (((b2.2 (k + 1) (by unfold P12; omega) s).1).trans (((Ag_uI u1 (by omega) s).1).trans (((b1.2 (k + 1) (by unfold P12; omega) s).1).trans (g0)))), ⟨fun zz => ((Ag_uJ u2 (by omega) s).1).trans (((b2.2 (k + 2) (by unfold P12; omega) s).1).trans ((show gI (uI A1 (ad (k + 2)) s wn) (ad (k + 2)) s = nmX B n e v nf by rw [gI_uI, if_pos ⟨rfl, rfl⟩]; exact hwn zz))), by rw [gJ_uJ, if_pos ⟨rfl, rfl⟩]⟩⟩
  simp only [f_X5_readArguments, lt_n, r_j_0 t0 hk, g7, lj1 t0 hk hs, g0, jn_n, if_true, if_false, dk30, dk31, dk32, dk34, dk35, cl_n, narB, r_j_1 t0 hk, a1, sj2 u1 hk hs, r_j_6 t1 hk, a2, sj7 u2 hk hs, e1]
theorem LA4 {B : Nat → Int32} {n e s : Nat} {q : Option (Nat × Nat)} (h : LGs S ad B n e q) (hk : JB k) (hs : s < 40) (g7 : gI S (ad k) 7 = nI s) (g0 : gI S (ad (k + 1)) s = 4) (hb : BB b) (h8 : nf ≤ 8) (ax : AXN S ad b v nf) : ∃ S', f_X5_readArguments S (ad k) (ad 12) (ad (b + 4)) = some S' ∧ JW S S' ad k s ∧ LGs S' ad B n (tkR B n e) (qor q (eA4 B n e v nf)) ∧ gI S' (ad (k + 1)) s = 4 ∧ (gJ S' (ad (k + 7)) s = Int32.toInt64 (nI (vNum B n e 1 999999)) * 100) := by
  have hk' : k = 22 ∨ k = 30 := hk
  have t0 := h.1.1
  obtain ⟨A1, a1, b1, c1⟩ := L_num h (a := 1) (by omega) 999999 (i := 1) rfl
  have u1 := b1.t t0
  have l1 := LGs_J (s := s) c1.ls hk (q := 7) (by omega) (Int32.toInt64 (nI (vNum B n e 1 999999)) * 100)
  have t1 := l1.1.1
  have e1 : gI (uJ A1 (ad (k + 7)) s (Int32.toInt64 (nI (vNum B n e 1 999999)) * 100)) (ad k) 7 = nI s := ((Ag_uJ u1 (by omega) 7).1).trans (KC7 b1 hk g7)
  refine ⟨(uJ A1 (ad (k + 7)) s (Int32.toInt64 (nI (vNum B n e 1 999999)) * 100)), ?_, (JW.rf).tr ((JW_k b1).tr (JW_J u1 (by omega) _)), by rw [eA4]; simp only [← qor_a, qor_n]; exact l1, ((Ag_uJ u1 (by omega) s).1).trans (((b1.2 (k + 1) (by unfold P12; omega) s).1).trans (g0)), by rw [gJ_uJ, if_pos ⟨rfl, rfl⟩]⟩
  simp only [f_X5_readArguments, lt_n, r_j_0 t0 hk, g7, lj1 t0 hk hs, g0, jn_n, if_true, if_false, dk40, dk41, dk42, dk43, dk45, cl_n, narB, r_j_6 t0 hk, a1, sj7 u1 hk hs]
theorem LA5 {B : Nat → Int32} {n e s : Nat} {q : Option (Nat × Nat)} (h : LGs S ad B n e q) (hk : JB k) (hs : s < 40) (g7 : gI S (ad k) 7 = nI s) (g0 : gI S (ad (k + 1)) s = 5) (hb : BB b) (h8 : nf ≤ 8) (ax : AXN S ad b v nf) : ∃ S', f_X5_readArguments S (ad k) (ad 12) (ad (b + 4)) = some S' ∧ JW S S' ad k s ∧ LGs S' ad B n (tkR B n (tkR B n (tkR B n e))) (qor q (eA5 B n e v nf)) ∧ gI S' (ad (k + 1)) s = 5 ∧ ((eNm B n e v nf true = none → gI S' (ad (k + 2)) s = nmX B n e v nf) ∧ gI S' (ad (k + 5)) s = (nI (vNum B n (tkR B n e) 0 4)) ∧ gI S' (ad (k + 6)) s = (bI (isW B n (tkR B n (tkR B n e)) 17))) := by
  have hk' : k = 22 ∨ k = 30 := hk
  have t0 := h.1.1
  obtain ⟨wn, A1, a1, b1, c1, -, hwn⟩ := L_name (nf := nf) (u := v) h hb h8 ax true (p2 := 1) rfl
  have u1 := b1.t t0
  have l1 := LGs_I (s := s) c1.ls hk (q := 2) (by omega) (wn)
  have t1 := l1.1.1
  have e1 : gI (uI A1 (ad (k + 2)) s wn) (ad k) 7 = nI s := ((Ag_uI u1 (by omega) 7).1).trans (KC7 b1 hk g7)
  obtain ⟨A2, a2, b2, c2⟩ := L_num l1 (a := 0) (by omega) 4 (i := 0) rfl
  have u2 := b2.t t1
  have l2 := LGs_I (s := s) c2.ls hk (q := 5) (by omega) ((nI (vNum B n (tkR B n e) 0 4)))
  have t2 := l2.1.1
  have e2 : gI (uI A2 (ad (k + 5)) s (nI (vNum B n (tkR B n e) 0 4))) (ad k) 7 = nI s := ((Ag_uI u2 (by omega) 7).1).trans (KC7 b2 hk e1)
  obtain ⟨A3, a3, b3, c3⟩ := L_yes l2
  have u3 := b3.t t2
  have l3 := LGs_I (s := s) c3.ls hk (q := 6) (by omega) ((bI (isW B n (tkR B n (tkR B n e)) 17)))
  have t3 := l3.1.1
  have e3 : gI (uI A3 (ad (k + 6)) s (bI (isW B n (tkR B n (tkR B n e)) 17))) (ad k) 7 = nI s := ((Ag_uI u3 (by omega) 7).1).trans (KC7 b3 hk e2)
  refine ⟨(uI A3 (ad (k + 6)) s (bI (isW B n (tkR B n (tkR B n e)) 17))), ?_, (((JW.rf).tr ((JW_k b1).tr (JW_I u1 (by omega) _))).tr ((JW_k b2).tr (JW_I u2 (by omega) _))).tr ((JW_k b3).tr (JW_I u3 (by omega) _)), by rw [eA5]; simp only [← qor_a, qor_n]; exact l3, ((Ag_uI u3 (by omega) s).1).trans (((b3.2 (k + 1) (by unfold P12; omega) s).1).trans (((Ag_uI u2 (by omega) s).1).trans (((b2.2 (k + 1) (by unfold P12; omega) s).1).trans (((Ag_uI u1 (by omega) s).1).trans (((b1.2 (k + 1) (by unfold P12; omega) s).1).trans (g0)))))), ⟨fun zz => ((Ag_uI u3 (by omega) s).1).trans (((b3.2 (k + 2) (by unfold P12; omega) s).1).trans (((Ag_uI u2 (by omega) s).1).trans (((b2.2 (k + 2) (by unfold P12; omega) s).1).trans ((show gI (uI A1 (ad (k + 2)) s wn) (ad (k + 2)) s = nmX B n e v nf by rw [gI_uI, if_pos ⟨rfl, rfl⟩]; exact hwn zz))))), ((Ag_uI u3 (by omega) s).1).trans (((b3.2 (k + 5) (by unfold P12; omega) s).1).trans ((show gI (uI A2 (ad (k + 5)) s (nI (vNum B n (tkR B n e) 0 4))) (ad (k + 5)) s = (nI (vNum B n (tkR B n e) 0 4)) by rw [gI_uI, if_pos ⟨rfl, rfl⟩]))), (show gI (uI A3 (ad (k + 6)) s (bI (isW B n (tkR B n (tkR B n e)) 17))) (ad (k + 6)) s = (bI (isW B n (tkR B n (tkR B n e)) 17)) by rw [gI_uI, if_pos ⟨rfl, rfl⟩])⟩⟩
  simp only [f_X5_readArguments, lt_n, r_j_0 t0 hk, g7, lj1 t0 hk hs, g0, jn_n, if_true, if_false, dk50, dk51, dk52, dk53, dk54, cl_n, narB, r_j_1 t0 hk, a1, sj2 u1 hk hs, r_j_4 t1 hk, a2, sj5 u2 hk hs, e1, r_j_5 t2 hk, a3, sj6 u3 hk hs, e2]
theorem LA6 {B : Nat → Int32} {n e s : Nat} {q : Option (Nat × Nat)} (h : LGs S ad B n e q) (hk : JB k) (hs : s < 40) (g7 : gI S (ad k) 7 = nI s) (g0 : gI S (ad (k + 1)) s = 6) (hb : BB b) (h8 : nf ≤ 8) (ax : AXN S ad b v nf) : ∃ S', f_X5_readArguments S (ad k) (ad 12) (ad (b + 4)) = some S' ∧ JW S S' ad k s ∧ LGs S' ad B n e (qor q (eA6 B n e v nf)) ∧ gI S' (ad (k + 1)) s = 6 ∧ (True) := by
  have hk' : k = 22 ∨ k = 30 := hk
  have t0 := h.1.1
  refine ⟨S, ?_, JW.rf, by rw [eA6]; simp only [← qor_a, qor_n]; exact h, g0, trivial⟩
  simp only [f_X5_readArguments, lt_n, r_j_0 t0 hk, g7, lj1 t0 hk hs, g0, jn_n, if_true, if_false, dk60, dk61, dk62, dk63, dk64, dk65, cl_n, narB]
