/-! the pure part: all statements of a system -/
variable {S S0 S1 S2 S' S'' S3 X Y : St} {ad : Nat → Nat} {b d j k : Nat} {v v0 v' v1 v2 u u0 u' w : Nat → Int64} {np nf no mo no' mo' x y : Nat}
theorem apS_k {a r : Int32} (tr : TR S ad) : KCx S (apS S ad d np a r) ad (fun p => p = d + 1 ∨ (d + 8 ≤ p ∧ p ≤ d + 11)) := by
  unfold apS
  have k1 : KCx S (uI S (ad (d + 8)) np a) ad (fun p => p = d + 1 ∨ (d + 8 ≤ p ∧ p ≤ d + 11)) := KCx_uI tr (Or.inr (by omega))
  have k2 := k1.tr (KCx_uI (p := d + 9) (i := np) (w := 0) (k1.t tr) (Or.inr (by omega)))
  have k3 := k2.tr (KCx_uI (p := d + 1) (i := 4) (w := nI (np + 1)) (k2.t tr) (Or.inl rfl))
  exact k3.tr ((asS_k (k3.t tr)).mono (fun p (z : d + 9 ≤ p ∧ p ≤ d + 11) => Or.inr (by omega)))
theorem R_plan {B : Nat → Int32} {n e e1 e2 e3 : Nat} (r : RS X ad B n e) (hv : gJ X (ad 3) = dV v u) (hk : tkK B n e ≠ 5) (he1 : e1 = tkR B n e) (he2 : e2 = tkR B n e1) (he3 : e3 = tkR B n e2) (h4 : np < 4) (u1 : u 1 = lN np) : (qor (eNum B n e1 0 1000) (eNum B n e2 0 3000) = none ∧ ∃ X3, RD X X3 ad B n e3 v (udt (udt u (14 + 11 * np + 0) ((nI (vNum B n e1 0 1000)).toInt64 * 1)) (14 + 11 * np + 1) ((nI (vNum B n e2 0 3000)).toInt64 * 1)) ∧ f_X12_readPlan X (ad 1) = lp (κ := Int32 → Int32 → St → Option (Int32 × St)) (fun _ _ _ => none) (mpB (ad 1) (nI (15176 + 11 * np))) FU 1 0 X3) ∨ (∃ c p, qor (eNum B n e1 0 1000) (eNum B n e2 0 3000) = some (c, p) ∧ ∃ X', f_X12_readPlan X (ad 1) = some (0, X') ∧ RFd X X' ad v c p) := by
  have t0 := r.1.1
  have l1 : ∀ {β : Type} (Y : St) (w : Nat → Int64) (K : Int64 → Option β), TR Y ad → gJ Y (ad 3) = dV v w → ldJ Y (ad 3) 15163 K = K (w 1) := fun Y w K ty hy => ld3d ty hy (k := 1) rfl (by decide)
  obtain ⟨X1, m1, r1, x1, -⟩ := R_ad r hk
  rw [← he1] at r1
  have rd1 := RD_mk r1 x1 hv
  have t1 := r1.1.1
  have n4 : ¬ lN np = (4 : Int64) := by rw [show (4 : Int64) = lN 4 from rfl, lN_eq (by omega) (by decide)]; omega
  have i8 : (15176 : Int32) + 11 * nI np = nI (15176 + 11 * np) := by rw [mu11, show (15176 : Int32) = nI 15176 from rfl, nI_add]
  have i0 : nI (15176 + 11 * np) + 0 = nI (15162 + (14 + 11 * np + 0)) := by rw [show (0 : Int32) = nI 0 from rfl, nI_add, show 15176 + 11 * np + 0 = 15162 + (14 + 11 * np + 0) by omega]
  have i1 : nI (15176 + 11 * np) + 1 = nI (15162 + (14 + 11 * np + 1)) := by rw [show (1 : Int32) = nI 1 from rfl, nI_add, show 15176 + 11 * np + 1 = 15162 + (14 + 11 * np + 1) by omega]
  rcases R_into r1 rd1.2.2 i0 (by omega) (a := 0) (by omega) 1000 (ia := 0) rfl (mul := 1) with ⟨z1, X2, m2, r2⟩ | ⟨cc, z1, -, X2, m2, f2⟩
  · rw [← he2] at r2
    rcases R_into r2.1 r2.2.2 i1 (by omega) (a := 0) (by omega) 3000 (ia := 0) rfl (mul := 1) with ⟨z2, X3, m3, r3⟩ | ⟨cc, z2, -, X3, m3, f3⟩
    · rw [← he3] at r3
      refine Or.inl ⟨by rw [z1, z2]; rfl, X3, (rd1.tr r2).tr r3, ?_⟩
      unfold f_X12_readPlan
      rw [lt_n, r_1_0 t0, l1 X u _ t0 hv, u1, if_neg n4, m1, cl_n, lt_n, r_1_0 t1, l1 X1 u _ t1 rd1.2.2, u1, lN_i, i8, lt_n, m2, cl_n, if_neg (show ¬ ((1 : Int32), X2).1 = 0 from (by decide : ¬ (1 : Int32) = 0)), m3, cl_n, if_neg (show ¬ ((1 : Int32), X3).1 = 0 from (by decide : ¬ (1 : Int32) = 0))]
      exact (mpE X (ad 1) _ X3 _ rfl).symm
    · refine Or.inr ⟨cc, tkS B n e2, by rw [z1, z2]; rfl, X3, ?_, (rd1.tr r2).fd f3⟩
      unfold f_X12_readPlan
      rw [lt_n, r_1_0 t0, l1 X u _ t0 hv, u1, if_neg n4, m1, cl_n, lt_n, r_1_0 t1, l1 X1 u _ t1 rd1.2.2, u1, lN_i, i8, lt_n, m2, cl_n, if_neg (show ¬ ((1 : Int32), X2).1 = 0 from (by decide : ¬ (1 : Int32) = 0)), m3, cl_n, if_pos (show ((0 : Int32), X3).1 = 0 from rfl)]
  · refine Or.inr ⟨cc, tkS B n e1, by rw [z1]; rfl, X2, ?_, rd1.fd f2⟩
    unfold f_X12_readPlan
    rw [lt_n, r_1_0 t0, l1 X u _ t0 hv, u1, if_neg n4, m1, cl_n, lt_n, r_1_0 t1, l1 X1 u _ t1 rd1.2.2, u1, lN_i, i8, lt_n, m2, cl_n, if_pos (show ((0 : Int32), X2).1 = 0 from rfl)]
theorem ST_0 {B : Nat → Int32} {n e : Nat} (h : LGt S ad B n e none) (c : DV S ad d u np nf no) (hk1 : tkK B n e = 1) (hs : stW B n e = 0) (hw : isW B n e 0 = true) : ST2 S ad d v u B n e (f_X7_readStatement S (ad 12) (ad d)) (fun X => f_X12_readStatement X (ad 1)) := by
  have he := h.2.2.2.2.2.1
  have hd := c.hd
  have hb := c.hb
  have hp4 := c.hp
  have stC : ∀ Z, f_X7_readPlan S (ad 12) (ad (d + 1)) = some Z → f_X7_readStatement S (ad 12) (ad d) = (cl (f_X9_endStatement Z (ad 12)) fun S5 => some S5) := fun Z hz => by
    simp only [f_X7_readStatement, L_isT h (i := 0) (by decide) hw, cl_n, jn_n, i10, if_false, lt_n, r_b0_0 c.t hb, hz]
  have stM : ∀ X, RS X ad B n e → ∀ r X2, (r = 0 ∨ r = 1) → f_X12_readPlan X (ad 1) = some (r, X2) → f_X12_readStatement X (ad 1) = some (r, X2) := fun X r q X2 hq hz => by
    simp only [f_X12_readStatement, R_stat r, hs, cl_n, if_true, hz, zc_w hq]
  by_cases h4 : np < 4
  · obtain ⟨e1, he1⟩ : ∃ e1, e1 = tkR B n e := ⟨_, rfl⟩
    obtain ⟨e2, he2⟩ : ∃ e2, e2 = tkR B n e1 := ⟨_, rfl⟩
    obtain ⟨e3, he3⟩ : ∃ e3, e3 = tkR B n e2 := ⟨_, rfl⟩
    have y0 := tkR_le (B := B) he
    have p1' := tkR_lt he hk1
    rw [← he1] at y0 p1'
    have y1 := tkR_le (B := B) y0.2
    rw [← he2] at y1
    have y2 := tkR_le (B := B) y1.2
    rw [← he3] at y2
    have hl0 := h.ls
    rw [← he1] at hl0
    obtain ⟨S1, a1, b1, c1⟩ := L_num hl0 (a := 0) (by omega) 1000 (i := 0) rfl
    rw [qor_0] at c1
    have hl1 := c1.ls
    rw [← he2] at hl1
    have d1 := DV_12 b1 c
    obtain ⟨S2, a2, b2, c2⟩ := L_num hl1 (a := 0) (by omega) 3000 (i := 0) rfl
    have d2 := DV_12 b2 d1
    have va := (vNum_ok (B := B) (a := 0) y0.2 (show 1000 < 2 ^ 31 by decide) (hi := 1000) rfl (by omega)).2
    have vb := (vNum_ok (B := B) (a := 0) y1.2 (show 3000 < 2 ^ 31 by decide) (hi := 3000) rfl (by omega)).2
    have ap := C_addPl (a := nI (vNum B n e1 0 1000)) (r := nI (vNum B n e2 0 3000)) d2.t hb d2.T.1 h4
    have k3 := apS_k (d := d) (np := np) (a := nI (vNum B n e1 0 1000)) (r := nI (vNum B n e2 0 3000)) d2.t
    have pv := PV_0 (a := vNum B n e1 0 1000) (r := vNum B n e2 0 3000) d2 h4 va (by omega)
    have l3 := LGs_c k3 (by omega) (by omega) c2.ls
    rw [← he3] at l3
    generalize apS S2 ad d np (nI (vNum B n e1 0 1000)) (nI (vNum B n e2 0 3000)) = S3 at ap k3 pv l3
    have c4 : nI np < (4 : Int32) := by rw [show (4 : Int32) = nI 4 from rfl, nI_ltI (by omega) (by decide)]; exact h4
    have base : f_X7_readPlan S (ad 12) (ad (d + 1)) = lp (κ := Int32 → Int32 → St → Option (St)) (fun _ _ _ => none) (plB (ad 12) (ad (d + 1))) FU 1 0 S3 := by
      rw [plE, lt_n, c.T.1, if_pos c4, a1, cl_n, a2, cl_n, ap, cl_n]
    have kk := ((b1.tr b2).mono (fun _ z => Or.inl z)).tr (k3.mono (Q := PD d) (fun p (z : p = d + 1 ∨ (d + 8 ≤ p ∧ p ≤ d + 11)) => Or.inr (by omega)))
    cases hq : qor (eNum B n e1 0 1000) (eNum B n e2 0 3000) with
    | some cp =>
      obtain ⟨cc, p⟩ := cp
      rw [hq] at l3
      have stop : lp (κ := Int32 → Int32 → St → Option (St)) (fun _ _ _ => none) (plB (ad 12) (ad (d + 1))) FU 1 0 S3 = some S3 := by
        have hf1 : f_X9_failed S3 (ad 12) = some 1 := LGs_failed l3
        rw [show FU = 5999 + 1 from rfl, lp_s]
        unfold plB
        rw [if_neg (by decide), hf1, cl_n, if_neg (by decide)]
      refine ST_end (e1 := e3) (q := some (cc, p)) (u' := u) (np' := np) (nf' := nf) (no' := no) (by omega) kk l3 (stC _ (base.trans stop)) (fun z => by simp at z) (fun X r hv => ?_)
      rcases R_plan r hv (by omega) he1 he2 he3 h4 c.u1 with ⟨z, -⟩ | ⟨cc', p', z, X', m1, m2⟩
      · rw [hq] at z; simp at z
      · rw [hq] at z
        exact Or.inr ⟨cc', p', z, X', stM X r _ _ (Or.inl rfl) m1, m2⟩
    | none =>
      rw [hq] at l3
      obtain ⟨S', y1', y2', y3'⟩ := PLP (v := v) d2 h4 5 0 e3 1 FU S3 _ (by omega) (by omega) (show 5 < 6000 by omega) l3 (by omega) (by omega) pv
      have bs : f_X7_readPlan S (ad 12) (ad (d + 1)) = some S' := base.trans y1'
      rcases y3' with ⟨e', u', t, z1, z2, z3, z4⟩ | ⟨cc, p, e', z1, z2, z3⟩
      · refine ST_end (e1 := e') (q := none) (by omega) (kk.tr y2') z2 (stC _ bs) (fun _ => DV_pl d2 h4 z3) (fun X r hv => ?_)
        rcases R_plan r hv (by omega) he1 he2 he3 h4 c.u1 with ⟨-, X3, m1, m2⟩ | ⟨cc', p', z, -⟩
        · obtain ⟨X', g1, g2⟩ := z4 X3 FU (show 5 < 6000 by omega) m1.1 m1.2.2
          have rd := m1.tr g2
          have tX := rd.1.1.1
          have rd2 := RD_st (k := 1) (w := lN (np + 1)) rd (by decide)
          have u1' : u' 1 = lN np := (z3.2.2.2.2.1 1 (by omega)).trans c.u1
          have lc : ∀ (K : Int64 → Option (Int32 × St)), ldJ X' (ad 3) 15163 K = K (lN np) := fun K => by rw [ld3d tX rd.2.2 (i := 15163) (k := 1) rfl (by decide), u1']
          have sc : ∀ (K : St → Option (Int32 × St)), stJ X' (ad 3) 15163 (lN (np + 1)) K = K (uJ X' (ad 3) (15162 + 1) (lN (np + 1))) := fun K => st3d tX (k := 1) rfl (by decide)
          refine Or.inl ⟨rfl, _, rd2, fun r9 X9 m9 h9 => stM X r _ _ h9 ?_⟩
          rw [m2]
          refine g1.trans ?_
          simp only [mpU, lt_n, r_1_0 tX, lc, lN_1, sc, m9, cl_n, zc_w h9]
        · rw [hq] at z; simp at z
      · refine ST_end (e1 := e') (q := some (cc, p)) (u' := u) (np' := np) (nf' := nf) (no' := no) (by omega) (kk.tr y2') z2 (stC _ bs) (fun z => by simp at z) (fun X r hv => ?_)
        rcases R_plan r hv (by omega) he1 he2 he3 h4 c.u1 with ⟨-, X3, m1, m2⟩ | ⟨cc', p', z, -⟩
        · obtain ⟨X', g1, g2⟩ := z3 X3 FU (show 5 < 6000 by omega) m1.1 m1.2.2
          exact Or.inr ⟨cc, p, rfl, X', stM X r _ _ (Or.inl rfl) (m2.trans g1), m1.fdd g2⟩
        · rw [hq] at z; simp at z
  · have e4 : np = 4 := by omega
    subst e4
    obtain ⟨S1, a1, b1, c1⟩ := L_fail h (k := 4) (by omega) (i := 4) rfl
    obtain ⟨S2, a2, b2, c2⟩ := L_end c1.ls
    refine ⟨S2, ?_, (b1.tr b2).mono (fun _ z => Or.inl z), Or.inr ⟨4, tkS B n e, _, c2.ls, fun X r hv => ?_⟩⟩
    · rw [stC S1, a2, cl_n]
      rw [plE, lt_n, c.T.1, if_neg (by decide), a1, cl_n]
    · obtain ⟨X', g1, g2⟩ := R_fail r (k := 4) (i := 4) rfl
      refine ⟨X', stM X r _ _ (Or.inl rfl) ?_, RFl.dd g2 hv⟩
      have l2 : ∀ (K : Int64 → Option (Int32 × St)), ldJ X (ad 3) 15163 K = K (lN 4) := fun K => by rw [ld3d r.1.1 hv (i := 15163) (k := 1) rfl (by decide), c.u1]
      unfold f_X12_readPlan
      rw [lt_n, r_1_0 r.1.1, l2, if_pos (show lN 4 = (4 : Int64) from rfl), g1, cl_n, zc_0]
theorem ST_all {B : Nat → Int32} {n e : Nat} (h : LGt S ad B n e none) (c : DV S ad d u np nf no) : ST2 S ad d v u B n e (f_X7_readStatement S (ad 12) (ad d)) (fun X => f_X12_readStatement X (ad 1)) := by
  rcases stW_r (B := B) (n := n) (e := e) with ⟨h1, h2⟩ | ⟨hk, i, hi, hs, hw, hf⟩
  · exact ST_bad h c h1 h2
  · rcases (show i = 0 ∨ i = 1 ∨ i = 2 ∨ i = 3 ∨ i = 4 ∨ i = 5 ∨ i = 6 ∨ i = 7 ∨ i = 8 ∨ i = 9 by omega) with rfl | rfl | rfl | rfl | rfl | rfl | rfl | rfl | rfl | rfl
    · exact ST_0 h c hk hs hw
    · exact ST_1 h c hk hs hw hf
    · exact ST_2' h c hk hs hw hf
    · exact ST_3 h c hk hs hw hf
    · exact ST_4 h c hk hs hw hf
    · exact ST_5 h c hk hs hw hf
    · exact ST_6 h c hk hs hw hf
    · exact ST_7 h c hk hs hw hf
    · exact ST_8 h c hk hs hw hf
    · exact ST_9 h c hk hs hw hf
/-! the loops over statements -/
def rdB (p0 p1 : Nat) (k13 : Int32 → Int32 → St → Option (Int32 × St)) (x10 x11 : Int32) (S12 : St) : Option (Int32 × St) := if 1500 < x11 then (some (x10, S12)) else (cl (f_X9_failed S12 p0) fun (v15 : Int32) => if v15 = 0 then (cl (f_X9_advance S12 p0) fun (S16 : St) => lt (gI S16 p0 2) fun (v17 : Int32) => if v17 = 0 then (some (x10, S16)) else (cl (f_X7_readStatement S16 p0 p1) fun (S18 : St) => k13 (x10 + 1) (x11 + 1) S18)) else (some (x10, S12)))
theorem rdE (S : St) (p0 p1 : Nat) (S1 : St) (h : f_X9_begin S p0 = some S1) : f_X7_read S p0 p1 = lp (κ := Int32 → Int32 → St → Option (Int32 × St)) (fun _ _ _ => none) (rdB p0 p1) FU 0 0 S1 := by
  unfold f_X7_read
  rw [h, cl_n]
  refine (jn_n _ _).trans ?_
  exact jn_n _ _
def ldK (p0 : Nat) (x4 : Int32) (S5 : St) : Option (Int32 × St) := lt (uI S5 p0 9 0) fun (S8 : St) => lt (gI S8 p0 11) fun (v9 : Int32) => if v9 = 0 then (cl (f_X12_copyBlock S8 p0 3 0) fun (S10 : St) => lt (uI S10 p0 19 0) fun (S11 : St) => lt (uI S11 p0 20 0) fun (S12 : St) => lt (gR S12 p0 1) fun (a13 : Nat) => stI S12 a13 0 (vp_nar .boolean 0) fun (S15 : St) => lt (gR S15 p0 1) fun (a16 : Nat) => stI S15 a16 1 (vp_nar .boolean 0) fun (S18 : St) => some (x4, S18)) else (some ((-4), S8))
def ldB (p0 : Nat) (k21 : Int32 → St → Option (Int32 × St)) (x19 : Int32) (S20 : St) : Option (Int32 × St) := lt (gI S20 p0 11) fun (v23 : Int32) => if v23 = 0 then (lt (gI S20 p0 13) fun (v24 : Int32) => if v24 = 0 then (ldK p0 x19 S20) else (cl (f_X12_readStatement S20 p0) fun (o25 : Int32 × St) => if o25.1 = 0 then (k21 x19 o25.2) else (k21 (x19 + 1) o25.2))) else (ldK p0 x19 S20)
theorem ldE (S : St) (p0 : Nat) (S2 S3 : St) (h : f_X12_clearBlock (uI S p0 2 0) p0 3 = some S2) (h3 : f_X12_beginText S2 p0 = some S3) : f_X12_load S p0 = lp (κ := Int32 → St → Option (Int32 × St)) (fun _ _ => none) (ldB p0) FU 0 S3 := by
  unfold f_X12_load
  rw [lt_n, h, cl_n, h3, cl_n]
  exact jn_n _ _
theorem LL {B : Nat → Int32} {n : Nat} : ∀ (m e F c : Nat) (S : St) (u : Nat → Int64) (np nf no : Nat), n - e < m → m ≤ F → LGs S ad B n e none → c ≤ e → DV S ad d u np nf no → ∃ s' S', lp (κ := Int32 → Int32 → St → Option (Int32 × St)) (fun _ _ _ => none) (rdB (ad 12) (ad d)) F (nI c) (nI c) S = some (nI s', S') ∧ KCx S S' ad (PD d) ∧ ((∃ u' np' nf' no', gI S' (ad 12) 5 = 0 ∧ gI S' (ad 12) 6 = -1 ∧ DV S' ad d u' np' nf' no' ∧ ∀ X G, m ≤ G → RS X ad B n e → gJ X (ad 3) = dV v u → gI X (ad 1) 11 = 0 → ∃ X', lp (κ := Int32 → St → Option (Int32 × St)) (fun _ _ => none) (ldB (ad 1)) G (nI c) X = ldK (ad 1) (nI s') X' ∧ RX X X' ad P3 Qt ∧ gJ X' (ad 3) = dV v u') ∨ (∃ cc p, gI S' (ad 12) 5 = nI cc ∧ gI S' (ad 12) 6 = nI p ∧ (1 ≤ cc ∧ cc ≤ 5) ∧ ∀ X G, m ≤ G → RS X ad B n e → gJ X (ad 3) = dV v u → gI X (ad 1) 11 = 0 → ∃ X' x4, lp (κ := Int32 → St → Option (Int32 × St)) (fun _ _ => none) (ldB (ad 1)) G (nI c) X = ldK (ad 1) x4 X' ∧ RFd X X' ad v cc p)) := by
  intro m
  induction m with
  | zero => intro e F c S u np nf no h; omega
  | succ m ih =>
    intro e F c S u np nf no hm hF hL hc dv
    obtain ⟨F, rfl⟩ : ∃ F', F = F' + 1 := ⟨F - 1, by omega⟩
    have he : e ≤ n := hL.2.2.2.1
    have hn := hL.1.2.1
    have n15 : ¬ (1500 : Int32) < nI c := by rw [show (1500 : Int32) = nI 1500 from rfl, nI_ltI (by omega) (by omega)]; omega
    have hf0 : f_X9_failed S (ad 12) = some 0 := LGs_failed hL
    obtain ⟨A, a1, b1, c1⟩ := L_ad hL
    have k0 : (gI A (ad 12) 2 = 0) = (tkK B n e = 0) := L_2 c1 (c := 0) (by omega)
    have b1' : KCx S A ad (PD d) := b1.mono (fun _ z => Or.inl z)
    have dA := DV_12 b1 dv
    rw [lp_s]
    by_cases hk0 : tkK B n e = 0
    · refine ⟨c, A, ?_, b1', Or.inl ⟨u, np, nf, no, c1.2.2.2.2.2.2.1.1, c1.2.2.2.2.2.2.1.2, dA, fun X G hG r hv h11 => ⟨X, ?_, RX.rf, hv⟩⟩⟩
      · simp only [rdB, n15, if_false, hf0, cl_n, if_true, a1, lt_n, k0, hk0]
      · obtain ⟨G, rfl⟩ : ∃ G', G = G' + 1 := ⟨G - 1, by omega⟩
        have k13 : (gI X (ad 1) 13 = 0) = (tkK B n e = 0) := R_13 r (c := 0) (by omega)
        rw [lp_s]
        simp only [ldB, lt_n, h11, if_true, k13, hk0]
    · have hen := tkK_nz he hk0
      obtain ⟨S1, a2, b2, hcase⟩ := ST_all (v := v) c1 dA
      have bb := b1'.tr b2
      rcases hcase with ⟨e', u', np', nf', no', hee, hL1, dv1, hX⟩ | ⟨cc, p, e', hL1, hX⟩
      · have he' : e' ≤ n := hL1.2.2.2.1
        obtain ⟨s', S', y1, y2, y3⟩ := ih e' F (c + 1) S1 u' np' nf' no' (by omega) (by omega) hL1 (by omega) dv1
        refine ⟨s', S', ?_, bb.tr y2, ?_⟩
        · simp only [rdB, n15, if_false, hf0, cl_n, if_true, a1, lt_n, k0, hk0, a2, da1]
          exact y1
        · have adv : ∀ X G, RS X ad B n e → gJ X (ad 3) = dV v u → gI X (ad 1) 11 = 0 → ∃ X1, lp (κ := Int32 → St → Option (Int32 × St)) (fun _ _ => none) (ldB (ad 1)) (G + 1) (nI c) X = lp (κ := Int32 → St → Option (Int32 × St)) (fun _ _ => none) (ldB (ad 1)) G (nI (c + 1)) X1 ∧ RD X X1 ad B n e' v u' ∧ gI X1 (ad 1) 11 = 0 := fun X G r hv h11 => by
            have k13 : (gI X (ad 1) 13 = 0) = (tkK B n e = 0) := R_13 r (c := 0) (by omega)
            obtain ⟨X1, w1, w2⟩ := hX X r hv
            refine ⟨X1, ?_, w2, (w2.2.1.2.2 11 (by unfold Qt; omega)).trans h11⟩
            have w1' : f_X12_readStatement X (ad 1) = some (1, X1) := w1
            rw [lp_s]
            simp only [ldB, lt_n, h11, if_true, k13, hk0, if_false, w1', cl_n, i10, da1]
          rcases y3 with ⟨u2, np2, nf2, no2, z1, z2, z3, z4⟩ | ⟨cc, p, z1, z2, z3, z4⟩
          · refine Or.inl ⟨u2, np2, nf2, no2, z1, z2, z3, fun X G hG r hv h11 => ?_⟩
            obtain ⟨G, rfl⟩ : ∃ G', G = G' + 1 := ⟨G - 1, by omega⟩
            obtain ⟨X1, g1, g2, g3⟩ := adv X G r hv h11
            obtain ⟨X', q1, q2, q3⟩ := z4 X1 G (by omega) g2.1 g2.2.2 g3
            exact ⟨X', g1.trans q1, g2.2.1.tr q2, q3⟩
          · refine Or.inr ⟨cc, p, z1, z2, z3, fun X G hG r hv h11 => ?_⟩
            obtain ⟨G, rfl⟩ : ∃ G', G = G' + 1 := ⟨G - 1, by omega⟩
            obtain ⟨X1, g1, g2, g3⟩ := adv X G r hv h11
            obtain ⟨X', x4, q1, q2⟩ := z4 X1 G (by omega) g2.1 g2.2.2 g3
            exact ⟨X', x4, g1.trans q1, g2.fdd q2⟩
      · obtain ⟨F, rfl⟩ : ∃ F', F = F' + 1 := ⟨F - 1, by omega⟩
        have n15' : ¬ (1500 : Int32) < nI (c + 1) := by rw [show (1500 : Int32) = nI 1500 from rfl, nI_ltI (by omega) (by omega)]; omega
        have hf1 : f_X9_failed S1 (ad 12) = some 1 := LGs_failed hL1
        obtain ⟨⟨p1, p2, -⟩, p5, p6⟩ := hL1.2.2.2.2
        refine ⟨c + 1, S1, ?_, bb, Or.inr ⟨cc, p, p5, p6, ⟨p1, p2⟩, fun X G hG r hv h11 => ?_⟩⟩
        · simp only [rdB, n15, if_false, hf0, cl_n, if_true, a1, lt_n, k0, hk0, a2, da1]
          rw [lp_s]
          simp only [rdB, n15', if_false, hf1, cl_n, i10]
        · obtain ⟨G, rfl⟩ : ∃ G', G = G' + 1 + 1 := ⟨G - 2, by omega⟩
          have k13 : (gI X (ad 1) 13 = 0) = (tkK B n e = 0) := R_13 r (c := 0) (by omega)
          obtain ⟨X1, w1, w2⟩ := hX X r hv
          have w1' : f_X12_readStatement X (ad 1) = some (0, X1) := w1
          have g11 : ¬ gI X1 (ad 1) 11 = 0 := by rw [w2.1.2.1, show (0 : Int32) = nI 0 from rfl, nI_eq (by omega) (by omega)]; omega
          refine ⟨X1, nI c, ?_, w2⟩
          rw [lp_s]
          simp only [ldB, lt_n, h11, if_true, k13, hk0, if_false, w1', cl_n]
          rw [lp_s]
          simp only [ldB, lt_n, g11, if_false]
