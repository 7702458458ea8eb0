/-! the pure part: closing a month, the reference's side -/
variable {S S0 S1 S2 S' S'' S3 X : St} {ad : Nat → Nat} {b d j k : Nat} {v v0 v' v1 v2 u : Nat → Int64} {np nf no mo no' mo' : Nat}
/-- the reference's state within a call -/
def MX (U X : St) (ad : Nat → Nat) (u : Nat → Int64) (np nf no mo : Nat) : Prop := Mv X ad u np nf no mo ∧ Ch U X ad MPr ∧ gI X (ad 1) 2 = gI U (ad 1) 2
theorem MX_q (h : MX S X ad u np nf no mo) {a v' : Nat → Int64} (hv : ∀ i, i < 4 → v' i = u i) : MX S (qJ (pJ X (ad 7) 7 a) (ad 3) v') ad v' np nf no mo := by
  refine ⟨Mv_q (Mv_p7 h.1 7 a) (hv 1 (by omega)) (hv 2 (by omega)) (hv 3 (by omega)) (hv 0 (by omega)), (h.2.1.tr (Ch_pJ h.1.1 (by unfold MPr; omega))).tr (Ch_qJ (Mv_p7 h.1 7 a).1 (Or.inl rfl)), h.2.2⟩
theorem MX_q3 (h : MX S X ad u np nf no mo) {v' : Nat → Int64} (hv : ∀ i, i < 4 → v' i = u i) : MX S (qJ X (ad 3) v') ad v' np nf no mo :=
  ⟨Mv_q h.1 (hv 1 (by omega)) (hv 2 (by omega)) (hv 3 (by omega)) (hv 0 (by omega)), h.2.1.tr (Ch_qJ h.1.1 (Or.inl rfl)), h.2.2⟩
theorem bl1_4 {f i : Nat} (hi : i < 4) : bl1 v nf no mo f i = v i := bl1_n (by omega) (by omega) (by omega)
theorem bl2_4 {f i : Nat} (hi : i < 4) : bl2 v mo f i = v i := by unfold bl2; rw [udt_n (by omega), tfW_n (by omega)]
/-- the last part: sales, deliveries, the month -/
theorem M_tail (h : MX S X ad u np nf no mo) (hm : mo < 60) : ∃ S3, (lp (κ := Int32 → St → Option (Int32 × St)) (fun _ _ => none) (fun k45 x43 S44 => lt (gR S44 (ad 1) 0) fun (a47 : Nat) => ldJ S44 a47 3 fun (v49 : Int64) => if v49 ≤ (Int32.toInt64 x43) then ((fun S23 => jn (κ := St → Option (Int32 × St)) (fun S26 => lt (gR S26 (ad 1) 0) fun (a29 : Nat) => ldJ S26 a29 0 fun (v31 : Int64) => stJ S26 a29 0 (v31 + 1) fun (S32 : St) => lt (gR S32 (ad 1) 0) fun (a33 : Nat) => ldJ S32 a33 0 fun (v35 : Int64) => some ((Int64.toInt32 v35), S32)) fun k27 => lp (κ := Int32 → St → Option (Int32 × St)) (fun _ _ => none) (fun k38 x36 S37 => if 1214 ≤ x36 then (k27 S37) else (lt (gR S37 (ad 1) 0) fun (a40 : Nat) => stJ S37 a40 x36 0 fun (S42 : St) => k38 (x36 + 1) S42)) FU 1150 S23) S44) else (lt (gR S44 (ad 1) 0) fun (a50 : Nat) => stJ S44 a50 ((186 + (4 * x43)) + 3) 0 fun (S52 : St) => k45 (x43 + 1) S52)) FU 0 X) = some (nI (mo + 1), S3) ∧ Ch S S3 ad MPr ∧ gI S3 (ad 1) 2 = gI S (ad 1) 2 ∧ gJ S3 (ad 3) = enV u no mo := by
  have h16 := h.1.2.2.2.2.2.2.2.2.1
  have eX : X = qJ X (ad 3) u := by rw [← h.1.2.1, qJ_self]
  have J0 : ∀ w : Nat → Int64, (∀ i, i < 4 → w i = u i) → MX S (qJ X (ad 3) w) ad w np nf no mo := fun w hw => MX_q3 h hw
  refine ⟨qJ X (ad 3) (enV u no mo), ?_, h.2.1.tr (Ch_qJ h.1.1 (Or.inl rfl)), h.2.2, funext fun i => by rw [gJ_qJ, if_pos rfl]⟩
  conv => lhs; rw [eX]
  refine (lp_for0 (fun (k : Int32 → St → Option (Int32 × St)) i (w : Nat → Int64) => k (nI i) (qJ X (ad 3) w)) _ _ no (by omega) (fun o w => udt w (186 + 4 * o + 3) 0) (fun w => some (nI (mo + 1), qJ X (ad 3) (udt (itr (fun i w => udt w i 0) 1150 64 w) 0 (lN (mo + 1))))) (fun _ w => ∀ i, i < 4 → w i = u i) u (fun _ _ => rfl) ?_ ?_ ?_).trans ?_
  · intro k o w ho hw
    have hM := (J0 w hw).1
    have h2 : ¬ w 3 ≤ Int32.toInt64 (nI o) := by rw [cM_o hM (by omega)]; omega
    simp only [lt_n, r_1_0 hM.1, ld_3 hM, h2, if_false, M_ooS hM (show o < 16 by omega) (q := 3) (i := 3) (by decide) rfl, uJ_qJ, nI_1]
  · intro o w ho hw i hi
    rw [udt_n (by omega)]; exact hw i hi
  · intro k w hw
    have hM := (J0 w hw).1
    have h2 : w 3 ≤ Int32.toInt64 (nI no) := by rw [cM_o hM (by omega)]; omega
    rw [lt_n, r_1_0 hM.1, ld_3 hM, if_pos h2]
    refine (jn_n _ _).trans ?_
    refine lp_for (fun (k : Int32 → St → Option (Int32 × St)) i (w : Nat → Int64) => k (nI i) (qJ X (ad 3) w)) _ _ 1214 (fun i w => udt w i 0) (fun w => some (nI (mo + 1), qJ X (ad 3) (udt w 0 (lN (mo + 1))))) (fun i w => 1150 ≤ i ∧ ∀ i, i < 4 → w i = u i) ?_ ?_ ?_ 64 FU 1150 w rfl ⟨Nat.le_refl _, hw⟩ (show 64 < 6000 by omega)
    · intro k i w hi hw
      have hM := (J0 w hw.2).1
      rw [if_neg (show ¬ (1214 : Int32) ≤ nI i from nI_ge hi (by decide)), lt_n, r_1_0 hM.1, st3 h.1.1 (by omega), nI_1]
    · intro i w hi hw
      exact ⟨by omega, fun l hl => by rw [udt_n (by omega)]; exact hw.2 l hl⟩
    · intro k w hw
      have hM := (J0 w hw.2).1
      have e0 : w 0 = lN mo := hM.2.2.2.2.2.1
      have t2 : TR (qJ X (ad 3) (udt w 0 (lN (mo + 1)))) ad := TR_SR0 (SR0_qJ _ _ _) h.1.1
      rw [if_pos (show (1214 : Int32) ≤ nI 1214 from nI_le (Nat.le_refl 1214) (by decide))]
      show (lt (gR (qJ X (ad 3) w) (ad 1) 0) fun a29 => _) = _
      rw [lt_n, r_1_0 hM.1, ld_0 hM, e0, lN_1, ← nI_0, st3 h.1.1 (by decide), lt_n, r_1_0 t2, ld3 h.1.1 (by decide), udt_e, lN_i]
  · rw [zsV_char, zdV_char]; rfl
theorem M_close (c : CV S0 ad b v0 np nf no mo) (ws : WS v0 nf mo) (hm : mo < 60) (h : Mv S' ad v0 np nf no mo) : ∃ S3, f_X12_closeMonth S' (ad 1) = some (nI (mo + 1), S3) ∧ RK S' S3 ad (clsV v0 nf no mo) := by
  have h8 := c.hf
  have h1 := Mv_t h (ad 1) 2 0
  have hmo : ¬ mo = 60 := by omega
  have rk0 := RK.rf h
  generalize hU : uI S' (ad 1) 2 0 = U at h1 rk0
  have mx0 : MX U U ad v0 np nf no mo := ⟨h1, Ch.rf, rfl⟩
  have fin : (∃ S3, f_X12_closeMonth S' (ad 1) = some (nI (mo + 1), S3) ∧ Ch U S3 ad MPr ∧ gI S3 (ad 1) 2 = gI U (ad 1) 2 ∧ gJ S3 (ad 3) = clsV v0 nf no mo) → ∃ S3, f_X12_closeMonth S' (ad 1) = some (nI (mo + 1), S3) ∧ RK S' S3 ad (clsV v0 nf no mo) := by
    rintro ⟨S3, e, e1, e2, e3⟩
    exact ⟨S3, e, rk0.1.tr e1, e2.trans rk0.2.1, e3⟩
  apply fin
  unfold f_X12_closeMonth
  rw [lt_n, hU, M_over h1, decide_eq_false hmo, bI_f, cl_n, M_throws0, cl_n, if_pos rfl, lt_n, r_1_0 h1.1, ld_0 h1, lt_n, h1.2.2.2.2.2.1, lN_i, jn_n]
  refine lp_ex (fun (k : Int64 → Int32 → St → Option (Int32 × St)) i (s : Int64 × St) => k s.1 (nI i) s.2) _ _ nf (fun i s => MX U s.2 ad (VA v0 nf no mo i).1 np nf no mo ∧ s.1 = (VA v0 nf no mo i).2) (fun r => ∃ S3, r = some (nI (mo + 1), S3) ∧ Ch U S3 ad MPr ∧ gI S3 (ad 1) 2 = gI U (ad 1) 2 ∧ gJ S3 (ad 3) = clsV v0 nf no mo) ?_ ?_ nf FU 0 (0, U) (by omega) ⟨mx0, rfl⟩ (show nf < 6000 by omega)
  · rintro k i ⟨x, X⟩ hi ⟨hX0, hx⟩
    have hX : MX U X ad (VA v0 nf no mo i).1 np nf no mo := hX0
    obtain ⟨Si, Ki⟩ := K1_all c ws hm i (by omega)
    have cu := Ki.1.cv c
    have h2 : ¬ (VA v0 nf no mo i).1 2 ≤ Int32.toInt64 (nI i) := by rw [cM_f hX.1 (by omega)]; omega
    have e := M_step1 hX.1 cu.w cu.tiers hm hi x k
    refine ⟨(x + am (VA v0 nf no mo i).1 nf i (sls (VA v0 nf no mo i).1 no (nI i) 100) 1, qJ (pJ X (ad 7) 7 (am (VA v0 nf no mo i).1 nf i (sls (VA v0 nf no mo i).1 no (nI i) 100))) (ad 3) (bl1 (VA v0 nf no mo i).1 nf no mo i)), ⟨by rw [VA_s]; exact MX_q hX (v' := bl1 (VA v0 nf no mo i).1 nf no mo i) (fun l hl => bl1_4 hl), by rw [VA_s]; exact congrArg (· + _) hx⟩, ?_⟩
    show (lt (gR X (ad 1) 0) fun a76 => _) = _
    rw [r_1_0 hX.1.1] at e
    rw [lt_n, r_1_0 hX.1.1, ld_2 hX.1, if_neg h2]
    exact e
  · rintro k ⟨x, X⟩ ⟨hX0, hx⟩
    have hX : MX U X ad (VA v0 nf no mo nf).1 np nf no mo := hX0
    clear hX0
    obtain ⟨Si, Ki⟩ := K1_all c ws hm nf (Nat.le_refl _)
    have K20 := K2_0 c ws hm Ki
    have h2 : (VA v0 nf no mo nf).1 2 ≤ Int32.toInt64 (nI nf) := by rw [cM_f hX.1 (by omega)]; omega
    have hx' : x = (VA v0 nf no mo nf).2 := hx
    unfold clsV
    generalize (VA v0 nf no mo nf).1 = u1 at hX K20 h2 ⊢
    rw [← hx'] at K20 ⊢
    have eX : X = qJ X (ad 3) u1 := by
      rw [← hX.1.2.1, qJ_self]
    have mx2 : MX U (qJ X (ad 3) (adV u1 x)) ad (adV u1 x) np nf no mo := MX_q3 hX (fun i hi => udt_n (by omega))
    have e11 : ∀ {β : Type} (y : Int64) (K : St → Option β), stJ X (ad 3) 11 y K = K (qJ X (ad 3) (udt u1 11 y)) := fun y K => by
      conv => lhs; rw [eX]
      rw [show (11 : Int32) = nI 11 from rfl, st3 hX.1.1 (by decide)]
    show ∃ S3, (lt (gR X (ad 1) 0) fun a76 => _) = some (nI (mo + 1), S3) ∧ _
    rw [lt_n, r_1_0 hX.1.1, ld_2 hX.1, if_pos h2]
    show ∃ S3, (lt (gR X (ad 1) 0) fun a12 => _) = some (nI (mo + 1), S3) ∧ _
    rw [lt_n, r_1_0 hX.1.1, ld_11 hX.1, lt_n, ld_7 hX.1, M_rated, cl_n, e11]
    show ∃ S3, (jn _ _) = some (nI (mo + 1), S3) ∧ _
    rw [jn_n]
    change ∃ S3, (lp (κ := Int32 → St → Option (Int32 × St)) _ _ FU 0 (qJ X (ad 3) (adV u1 x))) = some (nI (mo + 1), S3) ∧ _
    generalize adV u1 x = u2 at mx2 K20 ⊢
    generalize qJ X (ad 3) u2 = X2 at mx2 ⊢
    refine lp_ex (fun (k : Int32 → St → Option (Int32 × St)) i (s : St) => k (nI i) s) _ _ nf (fun i s => MX U s ad (VB u2 mo i) np nf no mo) (fun r => ∃ S3, r = some (nI (mo + 1), S3) ∧ Ch U S3 ad MPr ∧ gI S3 (ad 1) 2 = gI U (ad 1) 2 ∧ gJ S3 (ad 3) = enV (VB u2 mo nf) no mo) ?_ ?_ nf FU 0 X2 (by omega) mx2 (show nf < 6000 by omega)
    · intro k i Y hi hY
      obtain ⟨Si, Ki⟩ := K2_all c hm K20 i (by omega)
      have cu := Ki.1.cv c
      have h2 : ¬ (VB u2 mo i) 2 ≤ Int32.toInt64 (nI i) := by rw [cM_f hY.1 (by omega)]; omega
      have e := M_step2 cu hY.1 hm hi k
      refine ⟨qJ Y (ad 3) (bl2 (VB u2 mo i) mo i), by rw [VB_s]; exact MX_q3 hY (v' := bl2 (VB u2 mo i) mo i) (fun l hl => bl2_4 hl), ?_⟩
      show (lt (gR Y (ad 1) 0) fun a57 => _) = _
      rw [lt_n, r_1_0 hY.1.1, ld_2 hY.1, if_neg h2]
      exact e
    · intro k Y hY
      have h2 : (VB u2 mo nf) 2 ≤ Int32.toInt64 (nI nf) := by rw [cM_f hY.1 (by omega)]; omega
      show ∃ S3, (lt (gR Y (ad 1) 0) fun a57 => _) = some (nI (mo + 1), S3) ∧ _
      rw [lt_n, r_1_0 hY.1.1, ld_2 hY.1, if_pos h2]
      show ∃ S3, (jn _ _) = some (nI (mo + 1), S3) ∧ _
      rw [jn_n]
      exact M_tail hY hm
theorem Q_closeMonth (c : CV S ad b v np nf no mo) (ws : WS v nf mo) : QM S ad b v np nf no mo [(3, 1)] (f_X11_closeMonth S (ad 0)) (fun S' => f_X12_closeMonth S' (ad 1)) := by
  have hm := c.hm
  by_cases hmo : mo < 60
  · obtain ⟨S', hx, mk⟩ := C_close c ws hmo
    have c' := mk.cv c
    refine Or.inl ⟨nI (mo + 1), S', clsV v nf no mo, no, mo + 1, ?_, mk, fun S' h => M_close c ws hmo h⟩
    simp only [f_X11_closeMonth, C_reqMo c, hmo, if_true, clx_l, lt_n, c.r, hx, cl_n, c'.r, r_b0_5 c'.t c.hb, c'.B.1]
  · have e60 : mo = 60 := by omega
    refine Or.inr ⟨3, 1, by simp, by simp only [f_X11_closeMonth, C_reqMo c, hmo, if_false, clx_r], fun S' h => ⟨0, ?_⟩⟩
    have h1 := Mv_t h (ad 1) 2 0
    show f_X12_closeMonth S' (ad 1) = _
    unfold f_X12_closeMonth
    rw [lt_n, M_over h1, decide_eq_true e60, bI_t, cl_n, M_throws1, cl_n, if_neg (show ¬ ((1 : Int32) = 0) by decide), uI_uI]
