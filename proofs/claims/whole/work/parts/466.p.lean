/-! the pure part: runJournal -/
variable {S S0 S1 S2 S' S'' S3 X Y : St} {ad : Nat → Nat} {b d j k : Nat} {v v0 v' v1 v2 u w : Nat → Int64} {np nf no mo no' mo' x y : Nat}
theorem uI_comm {a i l : Nat} {w z : Int32} (h : i ≠ l) : uI (uI S a i w) a l z = uI (uI S a l z) a i w := by
  refine St_I (fun x y => ?_) rfl
  rw [gI_uI, gI_uI, gI_uI, gI_uI]
  by_cases h1 : x = a ∧ y = l
  · rw [if_pos h1, if_neg (fun q => h (q.2.symm.trans h1.2)), if_pos h1]
  · rw [if_neg h1]
    by_cases h2 : x = a ∧ y = i
    · rw [if_pos h2, if_pos h2]
    · rw [if_neg h2, if_neg h2, if_neg h1]
theorem RE_nx (r : RE S ad b d j k v np nf no mo) {sz e' : Nat} (hsz : sz ≤ 40) (g7 : gI S (ad j) 7 = nI sz) (g19 : gI S (ad 1) 19 = nI sz) (hE : ∀ e, e < sz → ENT nf (gI S (ad (j + 1)) e) (gI S (ad (j + 2)) e) (gI S (ad (j + 3)) e) (gI S (ad (j + 4)) e) (gI S (ad (j + 5)) e) (gI S (ad (j + 6)) e) (gJ S (ad (j + 7)) e) (fun i => gI S (ad 10) (5 * e + i))) (he : e' ≤ sz) : RE (uI (uI S (ad j) 8 (nI e')) (ad 1) 20 (nI e')) ad b d j k v np nf no mo := by
  have t := r.1.t
  have hb := r.1.2.1
  have t1 : TR (uI S (ad j) 8 (nI e')) ad := TR_SR0 (SR0_uI _ _ _ _) t
  obtain ⟨c, e1, e2, r6, r7, r8, sn, ip, er, fm, -, h3, ws⟩ := r
  have ag : ∀ p, p ≠ 1 → p ≠ j → Ag S (uI (uI S (ad j) 8 (nI e')) (ad 1) 20 (nI e')) ad p := fun p h1 h2 => (Ag_uI t h2).trans (Ag_uI t1 h1)
  have fd : ∀ i, i ≠ 20 → gI (uI (uI S (ad j) 8 (nI e')) (ad 1) 20 (nI e')) (ad 1) i = gI S (ad 1) i := fun i hi => by
    rw [gI_uI, if_neg (fun q => hi q.2), (Ag_uI t (show 1 ≠ j by omega) i).1]
  have jf : ∀ i, gI (uI (uI S (ad j) 8 (nI e')) (ad 1) 20 (nI e')) (ad j) i = if i = 8 then nI e' else gI S (ad j) i := fun i => by
    rw [(Ag_uI t1 (show j ≠ 1 by omega) i).1, gI_uI]
    by_cases h : i = 8
    · rw [if_pos ⟨rfl, h⟩, if_pos h]
    · rw [if_neg (fun q => h q.2), if_neg h]
  have hs : SR0 S (uI (uI S (ad j) 8 (nI e')) (ad 1) 20 (nI e')) := (SR0_uI _ _ _ _).trans (SR0_uI _ _ _ _)
  have f20 : gI (uI (uI S (ad j) 8 (nI e')) (ad 1) 20 (nI e')) (ad 1) 20 = nI e' := by rw [gI_uI, if_pos ⟨rfl, rfl⟩]
  generalize uI (uI S (ad j) 8 (nI e')) (ad 1) 20 (nI e') = X at ag fd jf hs f20
  refine ⟨CV_c hs (fun q hq => ag _ (by omega) (by unfold BR at hq; omega)) c, e1, e2, (hs.1 _ _).trans r6, (hs.1 _ _).trans r7, (hs.1 _ _).trans r8, ⟨?_, ?_⟩, ?_, ?_, ?_, ?_, (funext fun i => (ag 3 (by omega) (by omega) i).2).trans h3, ws⟩
  · exact SN1_c (ag 21 (by omega) (by omega)) (ag 4 (by omega) (by omega)) (fun q hq => ag _ (by omega) (by omega)) sn.1
  · exact SN1_c (ag 21 (by omega) (by omega)) (ag 4 (by omega) (by omega)) (fun q hq => ag _ (by omega) (by omega)) sn.2
  · exact INP_c (ag 12 (by omega) (by omega) 1).1 (fd 9 (by omega)) (ag 13 (by omega) (by omega)) (ag 9 (by omega) (by omega)) ip
  · exact ERR_c (ag 0 (by omega) (by omega)) (fd 11 (by omega)) (fd 12 (by omega)) er
  · exact FMT_c (ag 14 (by omega) (by omega)) (fd 7 (by omega)) (ag 15 (by omega) (by omega)) (ag 8 (by omega) (by omega)) fm
  · refine ⟨sz, e', he, hsz, ?_, ?_, ?_, ?_, fun e hel => ?_⟩
    · rw [jf, if_neg (by decide)]; exact g7
    · rw [jf, if_pos rfl]
    · rw [fd 19 (by omega)]; exact g19
    · exact f20
    · have a : ∀ q, 1 ≤ q → q ≤ 7 → Ag S X ad (j + q) := fun q h1 h2 => ag (j + q) (by omega) (by omega)
      have a10 := ag 10 (by omega) (by omega)
      simp only [(a 1 (by omega) (by omega) e).1, (a 2 (by omega) (by omega) e).1, (a 3 (by omega) (by omega) e).1, (a 4 (by omega) (by omega) e).1, (a 5 (by omega) (by omega) e).1, (a 6 (by omega) (by omega) e).1, (a 7 (by omega) (by omega) e).2, fun i => (a10 i).1]
      exact hE e hel
theorem rj_rng (p : Int32) : (p < 1 ∨ 40 < p) ∨ ∃ q, 1 ≤ q ∧ q ≤ 40 ∧ p = nI q := by
  by_cases h1 : p < 1
  · exact Or.inl (Or.inl h1)
  · by_cases h2 : 40 < p
    · exact Or.inl (Or.inr h2)
    · right
      rw [Int32.lt_iff_toInt_lt, show (1 : Int32).toInt = 1 from rfl] at h1
      rw [Int32.lt_iff_toInt_lt, show (40 : Int32).toInt = 40 from rfl] at h2
      have hv : vin p 41 = true := by
        unfold vin
        rw [Bool.and_eq_true, decide_eq_true_eq, decide_eq_true_eq]
        omega
      obtain ⟨q, hq, rfl⟩ := vin_of (by decide) hv
      rw [nI_toInt (by omega)] at h1
      exact ⟨q, by omega, by omega, rfl⟩
theorem W_7 : StpW ad f_law_7 := by
  intro Ls xs S c i ⟨b, d, j, k, v, np, nf, no, mo, r⟩ hi hL hc
  have cv := r.1
  have hB := cv.2.1
  have t := cv.t
  have s1 : ∀ (β : Type) (k : Int32 → Option β), sx Ls xs (nI i + 1) k = k (xs (i + 1)) := fun β k => by rw [da1, sx_at hL (by omega)]
  generalize xs (i + 1) = p at s1
  have m1 := Mv_t r.m (ad 1) 2 0
  rcases rj_rng p with hp | ⟨q, hq1, hq, rfl⟩
  · refine ⟨_, c + 1, REL_t r 1, Nat.le_refl _, fun kont => ?_⟩
    have hx : f_X11_runJournal S (ad 0) p = some (.inr 2) := by
      rcases hp with hp | hp
      · simp only [rjCE, jn_n, hp, if_true, C_reqA0, clx_r]
      · by_cases h1 : p < 1
        · simp only [rjCE, jn_n, h1, if_true, C_reqA0, clx_r]
        · simp only [rjCE, jn_n, h1, hp, if_true, if_false, C_reqA0, clx_r]
    have hin : (decide ((1 : Int64) ≤ p.toInt64) && decide (p.toInt64 ≤ 40)) = false := by
      rw [show (1 : Int64) = (1 : Int32).toInt64 from rfl, show (40 : Int64) = (40 : Int32).toInt64 from rfl]
      rcases hp with hp | hp
      · rw [decide_eq_false (by rw [tl_le]; exact Int32.not_le.mpr hp)]; rfl
      · rw [decide_eq_false (p := p.toInt64 ≤ _) (by rw [tl_le]; exact Int32.not_le.mpr hp), Bool.and_false]
    have hy : f_X12_runJournal S (ad 1) p = some (0, uI S (ad 1) 2 1) := by
      simp only [rjME, lt_n, M_inRange, cl_n, jn_n, hin, bI_f, if_true, M_throws1, i10, if_false, uI_uI]
    simp only [f_law_7, f_L_runJournal, s1, hx, hy, clc_r, cl_n, bud_ok hc, thrown_e, jn_n, if_true, if_false, Nat.add_zero, reduceIte, i10, i20, i30, n21, n31, n32]
  · obtain ⟨sz, nx, hle, hsz, g7, g8, g19, g20, hE⟩ := r.2.2.2.2.2.2.2.2.2.2.1
    have hj : JB j := r.jb.2
    have hm40 : min q (sz - nx) ≤ 40 := by omega
    obtain ⟨m, hm⟩ : ∃ m, m = min q (sz - nx) := ⟨_, rfl⟩
    obtain ⟨N, S1, v', no', mo', h1, mk, h2⟩ := J_chain (ad := ad) (b := b) (np := np) (nf := nf) hj (R := gI S (ad 10)) (D := nI m) (p1 := nI q) m 0 nx S v no mo cv r.2.2.2.2.1 r.ws ⟨hsz, g7, hE⟩ g8 (by omega) (by omega) (by rw [Nat.zero_add]) (by
      rw [Nat.zero_add]
      by_cases h : q ≤ sz - nx
      · left; rw [hm, Nat.min_eq_left h]
      · right; exact ⟨by omega, by rw [nI_ltI (by omega) (by omega)]; omega⟩)
    have hx : f_X11_runJournal S (ad 0) (nI q) = some (.inl (0 + N, S1)) := by
      have a1 : ¬ nI q < 1 := by rw [show (1 : Int32) = nI 1 from rfl, nI_ltI (by omega) (by omega)]; omega
      have a2 : ¬ 40 < nI q := by rw [show (40 : Int32) = nI 40 from rfl, nI_ltI (by omega) (by omega)]; omega
      have e : (if nI (sz - nx) < nI q then nI (sz - nx) else nI q) = nI m := by
        by_cases h : sz - nx < q
        · rw [if_pos (by rw [nI_ltI (by omega) (by omega)]; exact h)]; congr 1; omega
        · rw [if_neg (by rw [nI_ltI (by omega) (by omega)]; exact h)]; congr 1; omega
      simp only [rjCE, jn_n, a1, a2, if_false, C_reqA1, clx_l, lt_n, r.2.2.2.2.1, f_X5_left, g7, g8, nI_sub hle, cl_n, e, rjCT_e]
      exact h1 FU 0 (show m < 6000 by omega)
    have t1 := mk.1.t (TR_SR0 (SR0_uI _ _ _ _) t)
    have mvS1 : Mv S1 ad v np nf no mo := mk.mv hB ⟨TR_SR0 (SR0_uI _ _ _ _) t, r.m.2⟩
    obtain ⟨z, hz⟩ : ∃ z, z = (0 + N).toInt64 := ⟨_, rfl⟩
    have mv2 := Mv_t (Mv_o mvS1 0 z) (ad 1) 2 0
    have f1 : ∀ i, MF i → gI (uI (uJ S1 (ad 2) 0 z) (ad 1) 2 0) (ad 1) i = gI S (ad 1) i := fun i hi => by
      have n2 : i ≠ 2 := by unfold MF at hi; omega
      rw [gI_uI, if_neg (fun q => n2 q.2), gI_uJ, mk.1.2.2 i hi, (Ag_uI t (show 1 ≠ j by unfold JB at hj; omega) i).1]
    have f10 : ∀ l, gI (uI (uJ S1 (ad 2) 0 z) (ad 1) 2 0) (ad 10) l = gI S (ad 10) l := fun l => by
      rw [gI_uI, if_neg (fun q => absurd ((t.1 _ _).mp q.1) (by decide)), gI_uJ, (mk.1.2.1 10 (by decide) (by rintro (h | ⟨q, hq, h⟩) <;> omega) l).1, (Ag_uI t (show 10 ≠ j by unfold JB at hj; omega) l).1]
    obtain ⟨S3, q1, rk⟩ := h2 _ mv2 (by rw [gI_uI, if_pos ⟨rfl, rfl⟩]) ((f1 19 (by simp [MF])).trans g19) ((f1 20 (by simp [MF])).trans g20) f10
    have hy : f_X12_runJournal (uJ S1 (ad 2) 0 z) (ad 1) (nI q) = some (0 + N, S3) := by
      have hin : (decide ((1 : Int64) ≤ (nI q).toInt64) && decide ((nI q).toInt64 ≤ 40)) = true := by
        rw [nI_l (by omega), Bool.and_eq_true, decide_eq_true_eq, decide_eq_true_eq, show (1 : Int64) = lN 1 from rfl, show (40 : Int64) = lN 40 from rfl, pk_lLE (by decide) (by omega), pk_lLE (by omega) (by decide)]
        exact ⟨hq1, hq⟩
      simp only [rjME, lt_n, M_inRange, cl_n, jn_n, hin, bI_t, i10, if_false, M_throws0, if_true, rjMT_e]
      exact q1 FU 0 (show m < 6000 by omega)
    have rX := RE_nx r hsz g7 g19 hE (e' := nx + m) (by omega)
    have mkX := MK_cj (p := 1) (i := 20) (w := nI (nx + m)) mk (TR_SR0 (SR0_uI _ _ _ _) t) (fun q hq z => by unfold BR at hq; omega)
    have tX : TR (uI S1 (ad 1) 20 (nI (nx + m))) ad := TR_SR0 (SR0_uI _ _ _ _) t1
    have rkX : RK (uJ (uI S1 (ad 1) 20 (nI (nx + m))) (ad 2) 0 z) S3 ad v' := by
      have e : uI (uI (uJ S1 (ad 2) 0 z) (ad 1) 2 0) (ad 1) 20 (nI (nx + m)) = uI (uJ (uI S1 (ad 1) 20 (nI (nx + m))) (ad 2) 0 z) (ad 1) 2 0 := uI_comm (by decide)
      rw [e] at rk
      exact ⟨(Ch_t (TR_SR0 (SR0_uJ _ _ _ _) tX)).tr rk.1, rk.2⟩
    refine ⟨S3, c, ⟨b, d, j, k, v', np, nf, no', mo', RE_fin rX mkX z rkX⟩, by omega, fun kont => ?_⟩
    rw [hz] at hy rkX
    simp only [f_law_7, f_L_runJournal, s1, hx, hy, clc_l, cl_n, bud_ok (show c ≤ 512 by omega), rk.thr, jn_n, st_o t1, rkX.ld tX, if_true, if_false, Nat.add_zero, reduceIte, i10, i20, i30, n21, n31, n32]
