/-! the pure part: isConnected -/
variable {S S0 S1 S2 S' S'' S3 X : St} {ad : Nat → Nat} {b d j k : Nat} {v v0 v' v1 v2 u w : Nat → Int64} {np nf no mo no' mo' x y : Nat}
theorem CW_cg {O O' : Nat → Prop} {w : Bool} (e : ∀ c, c < 900 → (O c ↔ O' c)) (h : CW O w) : CW O' w := by
  have CL : ∀ {c0 : Nat} {T : Nat → Prop}, Cls O c0 T ↔ Cls O' c0 T := fun {c0 T} => ⟨fun h => ⟨h.1, fun c d hc hd h1 h2 h3 => h.2 c d hc hd h1 h2 ((e d hd).mpr h3)⟩, fun h => ⟨h.1, fun c d hc hd h1 h2 h3 => h.2 c d hc hd h1 h2 ((e d hd).mp h3)⟩⟩
  rcases h with ⟨h1, h2⟩ | ⟨c0, R, h1, h2, h3, h4, h5, h6⟩
  · exact Or.inl ⟨fun c hc ho => h1 c hc ((e c hc).mpr ho), h2⟩
  · refine Or.inr ⟨c0, R, h1, (e c0 h1).mp h2, fun c hc ho => h3 c hc ((e c (by omega)).mpr ho), CL.mp h4, fun U hU => h5 U (CL.mpr hU), ?_⟩
    rw [h6]
    refine decide_eq_decide.mpr ?_
    rw [sm_congr 900 (h := fun c => @ite Nat (O' c) (Classical.propDecidable _) 1 0) fun c hc => ?_]
    by_cases ho : O c
    · simp [ho, (e c hc).mp ho]
    · simp [ho, show ¬ O' c from fun q => ho ((e c hc).mpr q)]
/-- what only the searches change -/
def SCR (b p : Nat) : Prop := (16 ≤ p ∧ p ≤ 19) ∨ p = b + 2 ∨ p = b + 13 ∨ p = b + 14
theorem MK.scr (m : MK S S1 ad b v v' np nf no' mo') (hb : b = 40 ∨ b = 80) (hc : Ch S1 S2 ad (SCR b)) : MK S S2 ad b v v' np nf no' mo' := by
  obtain ⟨h1, ax, rest⟩ := m
  refine ⟨h1.tr (hc.mono ?_), AXs_c (fun q hq => hc.2.1 _ (by omega) ?_) ax, rest⟩
  · rintro p (h | h | h | h)
    · exact Or.inl h
    · exact Or.inr ⟨2, by unfold MQ2; omega, h⟩
    · exact Or.inr ⟨13, by unfold MQ2; omega, h⟩
    · exact Or.inr ⟨14, by unfold MQ2; omega, h⟩
  · unfold BR at hq; unfold SCR; omega
theorem GA_b (t : TR S ad) (hb : BB b) : GA S (ad (b + 2)) (ad (b + 12)) (ad (b + 13)) (ad (b + 14)) := by
  refine ⟨r_b2_0 t hb, r_b2_1 t hb, r_b2_2 t hb, n_b12 t hb, n_b13 t hb, n_b14 t hb, ?_, ?_, ?_, ?_, ?_, ?_⟩ <;> (intro e; have := (t.1 _ _).mp e; omega)
theorem GA_16 (t : TR S ad) : GA S (ad 16) (ad 17) (ad 18) (ad 19) := by
  refine ⟨r_16_0 t, r_16_1 t, r_16_2 t, n_17 t, n_18 t, n_19 t, ?_, ?_, ?_, ?_, ?_, ?_⟩ <;> (intro e; have := (t.1 _ _).mp e; omega)
theorem Ch_gst (t : TR S ad) {P : Nat → Prop} {p0 p2 p3 : Nat} (h0 : p0 ≠ 1) (h2 : p2 ≠ 1) (h3 : p3 ≠ 1) (q0 : P p0) (q2 : P p2) (q3 : P p3) (s : QS) : Ch S (gst S (ad p0) (ad p2) (ad p3) s) ad P := by
  have t1 := (Ch_qI (g := s.2.1) t h2 q2).t t
  have t2 := (Ch_qI (g := s.1) t1 h3 q3).t t1
  exact ((Ch_qI t h2 q2).tr (Ch_qI t1 h3 q3)).tr (Ch_uI t2 h0 q0)
theorem Q_isConnected (c : CV S ad b v np nf no mo) (p : Int32) : QM S ad b v np nf no mo [(1, 1)] (f_X11_isConnected S (ad 0) p) (fun S' => f_X12_isConnected S' (ad 1) p) := by
  have hb := c.2.1
  cases hB : vin p nf
  · refine Or.inr ⟨1, 1, by simp, by simp [f_X11_isConnected, C_reqF c, hB, clx_r], fun S' h => ⟨0, ?_⟩⟩
    simp [f_X12_isConnected, lt_e, M_isFr (Mv_t h (ad 1) 2 0), cl_s, jn_e, if_bI, hB, M_throws1, uI_uI]
  · obtain ⟨w, S1, hw, hcw, hS⟩ := G_whole (GA_b c.t c.hb) p
    refine Or.inl ⟨bI w, S1, v, no, mo, ?_, ?_, fun S' h => ?_⟩
    · simp only [f_X11_isConnected, C_reqF c, hB, if_true, clx_l, lt_e, c.r, r_b0_1 c.t c.hb, hw, cl_s, zc_b]
    · rcases hS with rfl | ⟨s, rfl⟩
      · exact MK.rf c
      · exact (MK.rf c).scr hb (Ch_gst c.t (by omega) (by omega) (by omega) (Or.inr (Or.inl rfl)) (Or.inr (Or.inr (Or.inl rfl))) (Or.inr (Or.inr (Or.inr rfl))) s)
    · have h1 := Mv_t h (ad 1) 2 0
      obtain ⟨w', R, hR, hcw'⟩ := M_conn h1 p
      have ew : w' = w := CW_one hcw' (CW_cg (fun l hl => by rw [c.G l hl, tl_eq]) hcw)
      subst ew
      refine ⟨qI (uI S' (ad 1) 2 0) (ad 5) R, ?_, ?_⟩
      · simp only [f_X12_isConnected, lt_n, M_isFr h1, cl_n, jn_n, if_bI, hB, M_throws0, if_true, hR]
        cases w' <;> rfl
      · have rk := RK.rf h
        exact ⟨rk.1.tr (Ch_qI h1.1 (by decide) (by unfold MPr; omega)), by rw [gI_qI, if_neg (fun e => absurd ((h.1.1 _ _).mp e) (by decide))]; exact rk.2.1, rk.2.2⟩
theorem W_14 : StpW ad f_law_14 := by
  intro Ls xs S c i ⟨b, d, j, k, v, np, nf, no, mo, r⟩ hi hL hc
  have cv := r.1
  have hB := cv.2.1
  have t := cv.t
  have s1 : ∀ (β : Type) (k : Int32 → Option β), sx Ls xs (nI i + 1) k = k (xs (i + 1)) := fun β k => by rw [da1, sx_at hL (by omega)]
  rcases Q_isConnected cv (xs (i + 1)) with ⟨w, S1, v', no', mo', hx, mk, hy⟩ | ⟨e, z, he, hx, hy⟩
  · by_cases hw : w = 0
    · obtain ⟨S3, hz, rk⟩ := hy (uJ S1 (ad 2) 0 (0)) (Mv_o (mk.mv hB r.m) 0 (0))
      have t1 := mk.1.t t
      refine ⟨S3, c, ⟨b, d, j, k, v', np, nf, no', mo', RE_fin r mk (0) rk⟩, by omega, fun kont => ?_⟩
      simp only [f_law_14, f_L_isConnected, s1, hx, hw, hz, clc_l, cl_s, bud_ok (show c ≤ 512 by omega), rk.thr, jn_e, st_o t1, rk.ld t1, if_true, if_false, Nat.add_zero, reduceIte, i10, i20, i30, n21, n31, n32]
    · obtain ⟨S3, hz, rk⟩ := hy (uJ S1 (ad 2) 0 (1)) (Mv_o (mk.mv hB r.m) 0 (1))
      have t1 := mk.1.t t
      refine ⟨S3, c, ⟨b, d, j, k, v', np, nf, no', mo', RE_fin r mk (1) rk⟩, by omega, fun kont => ?_⟩
      simp only [f_law_14, f_L_isConnected, s1, hx, hw, hz, clc_l, cl_s, bud_ok (show c ≤ 512 by omega), rk.thr, jn_e, st_o t1, rk.ld t1, if_true, if_false, Nat.add_zero, reduceIte, i10, i20, i30, n21, n31, n32]
  · simp only [List.mem_cons, Prod.mk.injEq, List.not_mem_nil, or_false] at he
    obtain ⟨rfl, rfl⟩ := he
    obtain ⟨u, hz⟩ := hy _ r.m
    refine ⟨_, c + 1, REL_t r 1, Nat.le_refl _, fun kont => ?_⟩
    simp only [f_law_14, f_L_isConnected, s1, hx, hz, clc_r, cl_s, bud_ok hc, thrown_e, jn_e, if_true, if_false, Nat.add_zero, reduceIte, i10, i20, i30, n21, n31, n32]
