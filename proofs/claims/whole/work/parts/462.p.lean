/-! the pure part: ceding cells, both sides -/
variable {S S0 S1 S2 S' S'' S3 X Y : St} {ad : Nat → Nat} {b d j k : Nat} {v v0 v' v1 v2 u w : Nat → Int64} {np nf no mo no' mo' x y : Nat}
def ccT (S : St) (p0 : Nat) (p1 p2 p3 p4 p5 p6 : Int32) : Option ((Int32 × St) ⊕ Nat) := lt (gR S p0 2) fun (a25 : Nat) => lt (gR S p0 5) fun (a27 : Nat) => lt (gR S a27 1) fun (a29 : Nat) => cl (f_X3_copyFrom S a25 a29) fun (S31 : St) => lt (gR S31 p0 2) fun (a32 : Nat) => cl (f_X3_move S31 a32 p1 p2 p3 p4 p5 p6) fun (o34 : Int32 × St) => if o34.1 = 0 then (some (.inl (0, o34.2))) else (lt (gR o34.2 p0 5) fun (a35 : Nat) => lt (gR o34.2 a35 2) fun (a37 : Nat) => cl (f_X6_anyWithin o34.2 a37 p1 p3 p4 p5 p6) fun (v39 : Int32) => jn (κ := St → Option ((Int32 × St) ⊕ Nat)) (fun S40 => some (.inl ((-2), S40))) fun k41 => if v39 = 0 then (lt (gR o34.2 p0 2) fun (a43 : Nat) => cl (f_X3_isWhole o34.2 a43 p1) fun (o45 : Int32 × St) => if o45.1 = 0 then (k41 o45.2) else (lt (gR o45.2 p0 2) fun (a46 : Nat) => cl (f_X3_isWhole o45.2 a46 p2) fun (o48 : Int32 × St) => if o48.1 = 0 then (k41 o48.2) else (lt (gR o48.2 p0 5) fun (a49 : Nat) => lt (gR o48.2 a49 1) fun (a51 : Nat) => lt (gR o48.2 p0 2) fun (a53 : Nat) => cl (f_X3_copyFrom o48.2 a51 a53) fun (S55 : St) => some (.inl (o34.1, S55))))) else (k41 o34.2))
theorem ccE (S : St) (p0 : Nat) (p1 p2 p3 p4 p5 p6 : Int32) : f_X11_cede S p0 p1 p2 p3 p4 p5 p6 = (clx (f_X11_requireFranchisee S p0 p1) fun (u1 : Unit) => clx (f_X11_requireFranchisee S p0 p2) fun (u2 : Unit) => jn (κ := Int32 → Option ((Int32 × St) ⊕ Nat)) (fun x3 => clx (f_X11_requireArgument S x3) fun (u6 : Unit) => cl (f_X3_contains S p3 p4) fun (v7 : Int32) => clx (f_X11_requireArgument S v7) fun (u8 : Unit) => jn (κ := Int32 → Option ((Int32 × St) ⊕ Nat)) (fun x9 => clx (f_X11_requireArgument S x9) fun (u12 : Unit) => lt (gR S p0 5) fun (a13 : Nat) => lt (gR S a13 3) fun (a15 : Nat) => cl (f_X2_isActive S a15 p1) fun (v17 : Int32) => jn (κ := Option ((Int32 × St) ⊕ Nat)) (some (.inl ((-2), S))) fun k18 => if v17 = 0 then (k18) else (lt (gR S p0 5) fun (a20 : Nat) => lt (gR S a20 3) fun (a22 : Nat) => cl (f_X2_isActive S a22 p2) fun (v24 : Int32) => if v24 = 0 then (k18) else (ccT S p0 p1 p2 p3 p4 p5 p6))) fun k10 => jn (κ := Option ((Int32 × St) ⊕ Nat)) (k10 0) fun k56 => if p5 ≤ p3 then (k56) else (if 30 < p5 then (k56) else (if p6 ≤ p4 then (k56) else (if 30 < p6 then (k56) else (k10 1))))) fun k4 => if p1 = p2 then (k4 0) else (k4 1)) := by
  unfold f_X11_cede ccT
  rfl
theorem rct_C {r1 r2 r3 r4 : Int32} (hc : (vin r1 30 && vin r2 30) = true) {α : Type} (A B : α) : (if r3 ≤ r1 then A else if 30 < r3 then A else if r4 ≤ r2 then A else if 30 < r4 then A else B) = if rct r1 r2 r3 r4 then B else A := by
  unfold rct
  rw [hc]
  by_cases a1 : r3 ≤ r1
  · rw [if_pos a1, decide_eq_false (Int32.not_lt.mpr a1)]; rfl
  · have b1 : r1 < r3 := Int32.not_le.mp a1
    by_cases a2 : 30 < r3
    · rw [if_neg a1, if_pos a2, decide_eq_true b1, decide_eq_false (Int32.not_le.mpr a2)]; rfl
    · have b2 : r3 ≤ 30 := Int32.not_lt.mp a2
      by_cases a3 : r4 ≤ r2
      · rw [if_neg a1, if_neg a2, if_pos a3, decide_eq_true b1, decide_eq_true b2, decide_eq_false (Int32.not_lt.mpr a3)]; rfl
      · have b3 : r2 < r4 := Int32.not_le.mp a3
        by_cases a4 : 30 < r4
        · rw [if_neg a1, if_neg a2, if_neg a3, if_pos a4, decide_eq_true b1, decide_eq_true b2, decide_eq_true b3, decide_eq_false (Int32.not_le.mpr a4)]; rfl
        · rw [if_neg a1, if_neg a2, if_neg a3, if_neg a4, decide_eq_true b1, decide_eq_true b2, decide_eq_true b3, decide_eq_true (Int32.not_lt.mp a4)]; rfl
theorem rc_nat {x1 : Nat} {r : Int32} (hx : x1 < 30) (h1 : nI x1 < r) (h2 : r ≤ 30) : ∃ m, x1 + m ≤ 30 ∧ r = nI (x1 + m) := by
  rw [Int32.lt_iff_toInt_lt, nI_toInt (by omega)] at h1
  rw [Int32.le_iff_toInt_le, show (30 : Int32).toInt = 30 from rfl] at h2
  have hv : vin r 31 = true := by
    unfold vin
    rw [Bool.and_eq_true, decide_eq_true_eq, decide_eq_true_eq]
    omega
  obtain ⟨z, hz, rfl⟩ := vin_of (by decide) hv
  rw [nI_toInt (by omega)] at h1
  exact ⟨z - x1, by omega, by rw [show x1 + (z - x1) = z by omega]⟩
/-- the ledger's answer and state -/
theorem C_ccT (c : CV S ad b v np nf no mo) {f g x1 y1 m n : Nat} (hf : f < nf) (hg : g < nf) (hx : x1 + m ≤ 30) (hy : y1 + n ≤ 30) : ∃ N B wA wB S1, N = sm (fun c => if mvB v (win x1 y1 m n) (nI f) c then 1 else 0) 900 ∧ (B = true ↔ anO v no (nI f) (win x1 y1 m n)) ∧ CW (fun c => grV v (win x1 y1 m n) (nI f) (nI g) (250 + c) = (nI f).toInt64) wA ∧ CW (fun c => grV v (win x1 y1 m n) (nI f) (nI g) (250 + c) = (nI g).toInt64) wB ∧ ccT S (ad 0) (nI f) (nI g) (nI x1) (nI y1) (nI (x1 + m)) (nI (y1 + n)) = some (.inl (if N = 0 then 0 else if B then -2 else if wA && wB then nI N else -2, S1)) ∧ MK S S1 ad b v (if N ≠ 0 ∧ B = false ∧ (wA && wB) = true then grV v (win x1 y1 m n) (nI f) (nI g) else v) np nf no mo := by
  have t := c.t
  have hb := c.2.1
  have h8 := c.hf
  have q1 := cp16 t c.hb
  have ch1 : Ch S (cpyI S (ad (b + 12)) 0 (ad 17) 0 900) ad (SCR b) := Ch_cpI t (by decide) (Or.inl (by omega))
  have g17 : ∀ i, i < 900 → gI (cpyI S (ad (b + 12)) 0 (ad 17) 0 900) (ad 17) i = gI S (ad (b + 12)) i := fun i hi => by
    rw [gI_cpyI, if_pos ⟨rfl, by omega, by omega⟩, Nat.zero_add, Nat.sub_zero]
  have j1 : ∀ a i, gJ (cpyI S (ad (b + 12)) 0 (ad 17) 0 900) a i = gJ S a i := fun _ _ => rfl
  generalize cpyI S (ad (b + 12)) 0 (ad 17) 0 900 = S1 at q1 ch1 g17 j1
  have t1 := ch1.t t
  have q2 := G_move (r_16_0 t1) (n_17 t1) (nI f) (nI g) hx hy
  have ch2 : Ch S1 (qI S1 (ad 17) (mvG (win x1 y1 m n) (nI f) (nI g) 900 (gI S1 (ad 17)))) ad (SCR b) := Ch_qI t1 (by decide) (Or.inl (by omega))
  have g2 : ∀ i, i < 900 → gI (qI S1 (ad 17) (mvG (win x1 y1 m n) (nI f) (nI g) 900 (gI S1 (ad 17)))) (ad 17) i = if win x1 y1 m n i = true ∧ gI S (ad (b + 12)) i = nI f then nI g else gI S (ad (b + 12)) i := fun i hi => by
    rw [gI_qI, if_pos rfl, mvG, g17 i hi]
    by_cases h : win x1 y1 m n i = true ∧ gI S (ad (b + 12)) i = nI f
    · rw [if_pos ⟨hi, h⟩, if_pos h]
    · rw [if_neg (fun z => h z.2), if_neg h]
  have j2 : ∀ a i, gJ (qI S1 (ad 17) (mvG (win x1 y1 m n) (nI f) (nI g) 900 (gI S1 (ad 17)))) a i = gJ S a i := fun a i => j1 a i
  have eN : sm (mvN (win x1 y1 m n) (nI f) (gI S1 (ad 17))) 900 = sm (fun c => if mvB v (win x1 y1 m n) (nI f) c then 1 else 0) 900 := sm_congr 900 fun i hi => by
    rw [mvN, g17 i hi]
    simp only [mvB, c.G i hi, tl_eq, Bool.and_eq_true, decide_eq_true_eq]
    by_cases h1 : win x1 y1 m n i = true <;> by_cases h2 : gI S (ad (b + 12)) i = nI f <;> simp [h1, h2]
  have leN : sm (fun c => if mvB v (win x1 y1 m n) (nI f) c then 1 else 0) 900 ≤ 900 := sm_bd 900 fun i _ => by
    show (if mvB v (win x1 y1 m n) (nI f) i = true then 1 else 0) ≤ 1
    by_cases h : mvB v (win x1 y1 m n) (nI f) i = true <;> simp [h]
  rw [eN] at q2
  obtain ⟨N, hN⟩ : ∃ N, N = sm (fun c => if mvB v (win x1 y1 m n) (nI f) c then 1 else 0) 900 := ⟨_, rfl⟩
  rw [← hN] at q2 leN
  have z0 : (nI N = 0) = (N = 0) := by rw [show (0 : Int32) = nI 0 from rfl, nI_eq (by omega) (by decide)]
  generalize qI S1 (ad 17) (mvG (win x1 y1 m n) (nI f) (nI g) 900 (gI S1 (ad 17))) = S2 at q2 ch2 g2 j2
  have ch12 := ch1.tr ch2
  have t2 := ch2.t t1
  have c2 : CV S2 ad b v np nf no mo := CV_c ch12.1 (fun q hq => ch12.2.1 _ (by omega) (by unfold SCR; unfold BR at hq; omega)) c
  obtain ⟨B, q3, hB⟩ := C_any c2 (nI f) hx hy
  obtain ⟨wA, SA, q4, cA, hA⟩ := G_whole (GA_16 t2) (nI f)
  have chA : Ch S2 SA ad (SCR b) := by
    rcases hA with rfl | ⟨s, rfl⟩
    · exact Ch.rf
    · exact Ch_gst t2 (by decide) (by decide) (by decide) (Or.inl (by omega)) (Or.inl (by omega)) (Or.inl (by omega)) s
  have aA : ∀ i, gI SA (ad 17) i = gI S2 (ad 17) i := by
    rcases hA with rfl | ⟨s, rfl⟩
    · exact fun _ => rfl
    · exact fun i => gst_1 (GA_16 t2) i
  have jA : ∀ a i, gJ SA a i = gJ S2 a i := by
    rcases hA with rfl | ⟨s, rfl⟩
    · exact fun _ _ => rfl
    · exact fun _ _ => rfl
  have tA := chA.t t2
  obtain ⟨wB, SB, q5, cB, hB'⟩ := G_whole (GA_16 tA) (nI g)
  have chB : Ch SA SB ad (SCR b) := by
    rcases hB' with rfl | ⟨s, rfl⟩
    · exact Ch.rf
    · exact Ch_gst tA (by decide) (by decide) (by decide) (Or.inl (by omega)) (Or.inl (by omega)) (Or.inl (by omega)) s
  have aB : ∀ i, gI SB (ad 17) i = gI SA (ad 17) i := by
    rcases hB' with rfl | ⟨s, rfl⟩
    · exact fun _ => rfl
    · exact fun i => gst_1 (GA_16 tA) i
  have jB : ∀ a i, gJ SB a i = gJ SA a i := by
    rcases hB' with rfl | ⟨s, rfl⟩
    · exact fun _ _ => rfl
    · exact fun _ _ => rfl
  have tB := chB.t tA
  have gq : ∀ l, l < 900 → grV v (win x1 y1 m n) (nI f) (nI g) (250 + l) = (gI S2 (ad 17) l).toInt64 := fun l hl => by
    rw [grV, g2 l hl, Nat.add_sub_cancel_left, c.G l hl]
    simp only [tl_eq]
    by_cases h : win x1 y1 m n l = true ∧ gI S (ad (b + 12)) l = nI f
    · rw [if_pos ⟨by omega, h⟩, if_pos h]
    · rw [if_neg (fun z => h z.2), if_neg h]
  have cA' : CW (fun c => grV v (win x1 y1 m n) (nI f) (nI g) (250 + c) = (nI f).toInt64) wA := CW_cg (fun l hl => by rw [gq l hl, tl_eq]) cA
  have cB' : CW (fun c => grV v (win x1 y1 m n) (nI f) (nI g) (250 + c) = (nI g).toInt64) wB := CW_cg (fun l hl => by rw [gq l hl, tl_eq, aA l]) cB
  have q6 := cp61 tB c.hb
  have rB : gR SB (ad 0) 5 = ad b := ((chA.1.trans chB.1).1 _ _).trans c2.r
  refine ⟨N, B, wA, wB, if N = 0 then S2 else if B then S2 else if wA then (if wB then cpyI SB (ad 17) 0 (ad (b + 12)) 0 900 else SB) else SA, hN, hB, cA', cB', ?_, ?_⟩
  · simp only [ccT, lt_n, r_0_2 t, c.r, r_b0_1 t c.hb, q1, cl_n, r_0_2 t1, q2, z0, c2.r, r_b0_2 c2.t c.hb, q3, jn_n, if_bI, r_0_2 t2, q4, r_0_2 tA, q5, rB, r_b0_1 tB c.hb, r_0_2 tB, q6]
    by_cases h0 : N = 0 <;> cases B <;> cases wA <;> cases wB <;> simp [h0]
  · have m0 := (MK.rf c).scr hb ch12
    by_cases h0 : N = 0
    · rw [if_pos h0, if_neg (fun z => z.1 h0)]; exact m0
    · rw [if_neg h0]
      cases B
      · rw [if_neg (by decide)]
        cases wA
        · rw [if_neg (by decide), if_neg (fun z => absurd z.2.2 (by simp))]
          exact m0.scr hb chA
        · rw [if_pos rfl]
          cases wB
          · rw [if_neg (by decide), if_neg (fun z => absurd z.2.2 (by simp))]
            exact (m0.scr hb chA).scr hb chB
          · rw [if_pos rfl, if_pos ⟨h0, rfl, rfl⟩]
            have mk := MK_grid c (win x1 y1 m n) (nI f) (nI g) (Or.inr ⟨g, hg, rfl⟩) (fun o ho hn z => absurd (hB.mpr ⟨o, ho, (own_cell c.w h8 ho (by omega)).mp ⟨hn, z.2⟩, z.1⟩) (by decide))
            refine mk.scr hb (Ch_join (q := b + 12) (Ch_qI t (by omega) rfl) ((((ch12.tr chA).tr chB).mono (fun _ z => Or.inl z)).tr (Ch_cpI tB (by omega) (Or.inr rfl))) (fun i => ⟨?_, ?_⟩))
            · rw [gI_cpyI, gI_qI, if_pos rfl, mvG]
              by_cases hi : i < 900
              · rw [if_pos ⟨rfl, by omega, by omega⟩, Nat.zero_add, Nat.sub_zero, aB, aA, g2 i hi]
                by_cases h : win x1 y1 m n i = true ∧ gI S (ad (b + 12)) i = nI f
                · rw [if_pos h, if_pos ⟨hi, h⟩]
                · rw [if_neg h, if_neg (fun z => h z.2)]
              · rw [if_neg (fun z => absurd z.2.2 (by omega)), if_neg (fun z => hi z.1)]
                exact (((ch12.tr chA).tr chB).2.1 (b + 12) (by omega) (by unfold SCR; omega) i).1
            · exact ((jB _ _).trans (jA _ _)).trans (j2 _ _)
      · rw [if_pos rfl, if_neg (fun z => absurd z.2.1 (by decide))]; exact m0
theorem Q_cede (c : CV S ad b v np nf no mo) (p q r1 r2 r3 r4 : Int32) : QM S ad b v np nf no mo [(1, 1), (2, 2)] (f_X11_cede S (ad 0) p q r1 r2 r3 r4) (fun S' => f_X12_cede S' (ad 1) p q r1 r2 r3 r4) := by
  have hb := c.2.1
  have h8 := c.hf
  cases hp : vin p nf
  · refine Or.inr ⟨1, 1, by simp, by simp only [ccE, C_reqF c, hp, Bool.false_eq_true, if_false, clx_r], fun S' h => ⟨0, ?_⟩⟩
    have h1 := Mv_t h (ad 1) 2 0
    simp only [mcE, lt_n, M_isFr h1, hp, cl_n, jn_n, if_bI, Bool.false_eq_true, if_false, M_throws1, i10, uI_uI]
  · cases hq : vin q nf
    · refine Or.inr ⟨1, 1, by simp, by simp only [ccE, C_reqF c, hp, hq, if_true, clx_l, Bool.false_eq_true, if_false, clx_r], fun S' h => ⟨0, ?_⟩⟩
      have h1 := Mv_t h (ad 1) 2 0
      simp only [mcE, lt_n, M_isFr h1, hp, hq, cl_n, jn_n, if_bI, if_true, Bool.false_eq_true, if_false, M_throws1, i10, uI_uI]
    · by_cases hpq : p = q
      · subst hpq
        refine Or.inr ⟨2, 2, by simp, by simp only [ccE, C_reqF c, hp, if_true, clx_l, jn_n, C_reqA0, clx_r], fun S' h => ⟨0, ?_⟩⟩
        have h1 := Mv_t h (ad 1) 2 0
        simp only [mcE, lt_n, M_isFr h1, hp, cl_n, jn_n, if_bI, if_true, if_false, M_throws0, M_throws1, i20, i10, uI_uI]
      · cases hr : rct r1 r2 r3 r4
        · refine Or.inr ⟨2, 2, by simp, ?_, fun S' h => ⟨0, ?_⟩⟩
          · cases hc : (vin r1 30 && vin r2 30)
            · simp only [ccE, C_reqF c, hp, hq, if_true, clx_l, jn_n, hpq, if_false, C_reqA1, C_contains, hc, cl_n, C_reqA, Bool.false_eq_true, clx_r]
            · simp only [ccE, C_reqF c, hp, hq, if_true, clx_l, jn_n, hpq, if_false, C_reqA1, C_contains, hc, cl_n, C_reqA, rct_C hc, hr, Bool.false_eq_true, C_reqA0, clx_r]
          · have h1 := Mv_t h (ad 1) 2 0
            simp only [mcE, lt_n, M_isFr h1, hp, hq, hpq, hr, M_isArea, cl_n, jn_n, if_bI, if_true, Bool.false_eq_true, if_false, M_throws0, M_throws1, i20, i10, uI_uI]
        · have hr2 := hr
          simp only [rct, Bool.and_eq_true, decide_eq_true_eq] at hr2
          obtain ⟨⟨⟨hv1, hv2⟩, a1, a2⟩, a3, a4⟩ := hr2
          obtain ⟨x1, hx1, rfl⟩ := vin_of (by decide) hv1
          obtain ⟨y1, hy1, rfl⟩ := vin_of (by decide) hv2
          obtain ⟨m, hx, rfl⟩ := rc_nat hx1 a1 a2
          obtain ⟨n, hy, rfl⟩ := rc_nat hy1 a3 a4
          obtain ⟨f, hf, rfl⟩ := vin_of (by omega) hp
          obtain ⟨g, hg, rfl⟩ := vin_of (by omega) hq
          have hc : (vin (nI x1) 30 && vin (nI y1) 30) = true := by rw [hv1, hv2]; rfl
          have eC : f_X11_cede S (ad 0) (nI f) (nI g) (nI x1) (nI y1) (nI (x1 + m)) (nI (y1 + n)) = if act v f && act v g then ccT S (ad 0) (nI f) (nI g) (nI x1) (nI y1) (nI (x1 + m)) (nI (y1 + n)) else some (.inl (-2, S)) := by
            simp only [ccE, C_reqF c, hp, hq, if_true, clx_l, jn_n, hpq, if_false, C_reqA1, C_contains, hc, cl_n, C_reqA, rct_C hc, hr, lt_n, c.r, r_b0_3 c.t c.hb, C_act c hf, C_act c hg, if_bI]
            cases act v f <;> cases act v g <;> rfl
          have eM : ∀ S', Mv S' ad v np nf no mo → f_X12_cede S' (ad 1) (nI f) (nI g) (nI x1) (nI y1) (nI (x1 + m)) (nI (y1 + n)) = if act v f && act v g then mcT (uI S' (ad 1) 2 0) (ad 1) (nI f) (nI g) (nI x1) (nI y1) (nI (x1 + m)) (nI (y1 + n)) else some (-2, uI S' (ad 1) 2 0) := fun S' h => by
            have h1 := Mv_t h (ad 1) 2 0
            simp only [mcE, lt_n, M_isFr h1, hp, hq, hpq, hr, M_isArea, cl_n, jn_n, if_bI, if_true, if_false, M_throws0, M_act h1 (show f < 8 by omega), M_act h1 (show g < 8 by omega)]
            cases act v f <;> cases act v g <;> rfl
          cases ha : act v f && act v g
          · rw [ha, if_neg (by decide)] at eC
            refine Or.inl ⟨-2, S, v, no, mo, eC, MK.rf c, fun S' h => ⟨_, ?_, RK.rf h⟩⟩
            have e := eM S' h
            rw [ha, if_neg (by decide)] at e
            exact e
          · rw [ha, if_pos rfl] at eC
            obtain ⟨N, B, wA, wB, S1, hN, hB, cA, cB, hT, mk⟩ := C_ccT c hf hg hx hy
            refine Or.inl ⟨_, S1, _, no, mo, eC.trans hT, mk, fun S' h => ?_⟩
            have h1 := Mv_t h (ad 1) 2 0
            have leN : N ≤ 900 := by
              rw [hN]
              exact sm_bd 900 fun i _ => by
                show (if mvB v (win x1 y1 m n) (nI f) i = true then 1 else 0) ≤ 1
                by_cases h : mvB v (win x1 y1 m n) (nI f) i = true <;> simp [h]
            have eB : cdB (mvB v (win x1 y1 m n) (nI f)) (fun c => hO v c no 0) 900 = B := by
              rw [Bool.eq_iff_iff, bad_any c.w h8 (show f < 8 by omega), hB]
            obtain ⟨S3, k1, k2, k3, k4⟩ := M_mcK h1 (win x1 y1 m n) (nI f) (nI g) (gI (uI S' (ad 1) 2 0) (ad 6)) (N := N) (by omega) B cA cB
            refine ⟨S3, ?_, (Ch_t h.1).tr k2, k3.trans (by rw [gI_uI, if_pos ⟨rfl, rfl⟩]), k4⟩
            have e := eM S' h
            rw [ha, if_pos rfl, M_mcT h1 c.w (nI f) (nI g) hx hy, eB, ← hN] at e
            exact e.trans k1
theorem W_16 : StpW ad f_law_16 := by
  intro Ls xs S c i ⟨b, d, j, k, v, np, nf, no, mo, r⟩ hi hL hc
  have cv := r.1
  have hB := cv.2.1
  have t := cv.t
  have s1 : ∀ (β : Type) (k : Int32 → Option β), sx Ls xs (nI i + 1) k = k (xs (i + 1)) := fun β k => by rw [da1, sx_at hL (by omega)]
  have s2 : ∀ (β : Type) (k : Int32 → Option β), sx Ls xs (nI i + 2) k = k (xs (i + 2)) := fun β k => by rw [da2, sx_at hL (by omega)]
  have s3 : ∀ (β : Type) (k : Int32 → Option β), sx Ls xs (nI i + 3) k = k (xs (i + 3)) := fun β k => by rw [da3, sx_at hL (by omega)]
  have s4 : ∀ (β : Type) (k : Int32 → Option β), sx Ls xs (nI i + 4) k = k (xs (i + 4)) := fun β k => by rw [da4, sx_at hL (by omega)]
  have s5 : ∀ (β : Type) (k : Int32 → Option β), sx Ls xs (nI i + 5) k = k (xs (i + 5)) := fun β k => by rw [da5, sx_at hL (by omega)]
  have s6 : ∀ (β : Type) (k : Int32 → Option β), sx Ls xs (nI i + 6) k = k (xs (i + 6)) := fun β k => by rw [da6, sx_at hL (by omega)]
  rcases Q_cede cv (xs (i + 1)) (xs (i + 2)) (xs (i + 3)) (xs (i + 4)) (xs (i + 5)) (xs (i + 6)) with ⟨w, S1, v', no', mo', hx, mk, hy⟩ | ⟨e, z, he, hx, hy⟩
  · obtain ⟨S3, hz, rk⟩ := hy (uJ S1 (ad 2) 0 (w.toInt64)) (Mv_o (mk.mv hB r.m) 0 (w.toInt64))
    have t1 := mk.1.t t
    refine ⟨S3, c, ⟨b, d, j, k, v', np, nf, no', mo', RE_fin r mk (w.toInt64) rk⟩, by omega, fun kont => ?_⟩
    simp only [f_law_16, f_L_cede, s1, s2, s3, s4, s5, s6, hx, hz, clc_l, cl_s, bud_ok (show c ≤ 512 by omega), rk.thr, jn_e, st_o t1, rk.ld t1, if_true, if_false, Nat.add_zero, reduceIte, i10, i20, i30, n21, n31, n32]
  · simp only [List.mem_cons, Prod.mk.injEq, List.not_mem_nil, or_false] at he
    rcases he with ⟨rfl, rfl⟩ | ⟨rfl, rfl⟩
    · obtain ⟨u, hz⟩ := hy _ r.m
      refine ⟨_, c + 1, REL_t r 1, Nat.le_refl _, fun kont => ?_⟩
      simp only [f_law_16, f_L_cede, s1, s2, s3, s4, s5, s6, hx, hz, clc_r, cl_s, bud_ok hc, thrown_e, jn_e, if_true, if_false, Nat.add_zero, reduceIte, i10, i20, i30, n21, n31, n32]
    · obtain ⟨u, hz⟩ := hy _ r.m
      refine ⟨_, c + 1, REL_t r 2, Nat.le_refl _, fun kont => ?_⟩
      simp only [f_law_16, f_L_cede, s1, s2, s3, s4, s5, s6, hx, hz, clc_r, cl_s, bud_ok hc, thrown_e, jn_e, if_true, if_false, Nat.add_zero, reduceIte, i10, i20, i30, n21, n31, n32]
