/-! the pure part: terminate -/
variable {S S1 S' S'' S3 : St} {ad : Nat → Nat} {b d j k : Nat} {v v' : Nat → Int64} {np nf no mo no' mo' : Nat}
theorem v_char {α : Type} [DecidableEq α] (ix : Nat → Nat) (P : Nat → Bool) (A B : α) (D : Nat → Nat → Bool) (h0 : ∀ i, D 0 i = false) (hs : ∀ n i, D (n + 1) i = true ↔ D n i = true ∨ (P n = true ∧ i = ix n)) (hn : ∀ n, D n (ix n) = false) (v : Nat → α) : ∀ n, itr (fun c v => if P c = true ∧ v (ix c) = A then udt v (ix c) B else v) 0 n v = fun i => if D n i = true ∧ v i = A then B else v i := by
  intro n
  induction n with
  | zero =>
    funext i
    show v i = _
    rw [if_neg (by rw [h0]; simp)]
  | succ n ih =>
    rw [itr_succ, ih, Nat.zero_add]
    have e0 : (fun i => if D n i = true ∧ v i = A then B else v i) (ix n) = v (ix n) := if_neg (by rw [hn]; simp)
    by_cases h : P n = true ∧ v (ix n) = A
    · rw [if_pos (by rw [e0]; exact h)]
      funext i
      by_cases hi : i = ix n
      · rw [hi, udt_e, if_pos ⟨(hs n (ix n)).mpr (Or.inr ⟨h.1, rfl⟩), h.2⟩]
      · rw [udt_n hi]
        by_cases h2 : D n i = true ∧ v i = A
        · rw [if_pos h2, if_pos ⟨(hs n i).mpr (Or.inl h2.1), h2.2⟩]
        · rw [if_neg h2, if_neg (fun e => ((hs n i).mp e.1).elim (fun q => h2 ⟨q, e.2⟩) (fun q => hi q.2))]
    · rw [if_neg (by rw [e0]; exact h)]
      funext i
      by_cases h2 : D n i = true ∧ v i = A
      · rw [if_pos h2, if_pos ⟨(hs n i).mpr (Or.inl h2.1), h2.2⟩]
      · rw [if_neg h2, if_neg (fun e => ((hs n i).mp e.1).elim (fun q => h2 ⟨q, e.2⟩) (fun q => h ⟨q.1, by rw [← q.2]; exact e.2⟩))]
theorem clV_char (v : Nat → Int64) (p : Int32) (no : Nat) : itr (fun o v => if v (186 + 4 * o + 0) = p.toInt64 then udt v (186 + 4 * o + 0) (-1) else v) 0 no v = clV v no p := by
  have := v_char (fun o => 186 + 4 * o + 0) (fun _ => true) p.toInt64 (-1) (fun n i => decide (186 ≤ i ∧ (i - 186) % 4 = 0 ∧ (i - 186) / 4 < n)) (fun i => decide_eq_false (by omega)) (fun n i => by simp only [decide_eq_true_eq, true_and]; omega) (fun n => decide_eq_false (by omega)) v no
  simp only [true_and] at this
  rw [this]
  funext i
  simp only [clV, decide_eq_true_eq]
theorem grV_char (v : Nat → Int64) (P : Nat → Bool) (p q : Int32) : itr (fun c v => if P c = true ∧ v (250 + c) = p.toInt64 then udt v (250 + c) q.toInt64 else v) 0 900 v = grV v P p q := by
  have := v_char (fun o => 250 + o) P p.toInt64 q.toInt64 (fun n i => decide ((250 ≤ i ∧ i < 250 + n)) && P (i - 250)) (fun i => by rw [decide_eq_false (by omega)]; rfl) (fun n i => by
    simp only [Bool.and_eq_true, decide_eq_true_eq]
    constructor
    · rintro ⟨h1, h2⟩
      by_cases h : i = 250 + n
      · right; subst h; rw [Nat.add_sub_cancel_left] at h2; exact ⟨h2, rfl⟩
      · left; exact ⟨by omega, h2⟩
    · rintro (⟨h1, h2⟩ | ⟨h1, rfl⟩)
      · exact ⟨by omega, h2⟩
      · rw [Nat.add_sub_cancel_left]; exact ⟨by omega, h1⟩) (fun n => by rw [decide_eq_false (by omega)]; rfl) v 900
  rw [this]
  funext i
  simp only [grV, Bool.and_eq_true, decide_eq_true_eq, and_assoc]
theorem clG_char (g : Nat → Int32) (p : Int32) (no : Nat) : itr (fun o g => if g o = p then udt g o (-1) else g) 0 no g = clG no p g := by
  have := v_char (fun o => o) (fun _ => true) p (-1) (fun n i => decide (i < n)) (fun i => decide_eq_false (by omega)) (fun n i => by simp only [decide_eq_true_eq, true_and]; omega) (fun n => decide_eq_false (by omega)) g no
  simp only [true_and] at this
  rw [this]
  funext i
  simp only [clG, decide_eq_true_eq]
theorem C_closeAll (c : CV S ad b v np nf no mo) (p : Int32) : f_X6_closeAllOf S (ad (b + 3)) p = some (qI S (ad (b + 15)) (clG no p (gI S (ad (b + 15))))) := by
  have ho := c.ho
  have T : ∀ g, TR (qI S (ad (b + 15)) g) ad := fun g => TR_SR0 (SR0_qI _ _ _) c.t
  have e4 : ∀ g, gI (qI S (ad (b + 15)) g) (ad (b + 3)) 4 = nI no := fun g => by
    rw [gI_qI, if_neg]
    · exact c.O.1
    · intro e; have := (c.t.1 _ _).mp e; omega
  rw [← clG_char]
  simp only [f_X6_closeAllOf, lt_n, jn_n]
  conv => lhs; rw [← qI_self S (ad (b + 15))]
  refine lp_for0 (fun (k : Int32 → St → Option St) i (g : Nat → Int32) => k (nI i) (qI S (ad (b + 15)) g)) _ _ no (by omega) _ (fun g => some (qI S (ad (b + 15)) g)) (fun _ _ => True) (gI S (ad (b + 15))) trivial ?_ (fun _ _ _ _ => trivial) ?_
  · intro k i g hi _
    have h1 : ¬ nI no ≤ nI i := by rw [nI_leI (by omega) (by omega)]; omega
    simp only [e4, h1, if_false, r_b3_0 (T g) c.hb, lb15 (T g) c.hb (show i < 16 by omega), gI_qI, if_true, nI_1, sb15 (T g) c.hb (show i < 16 by omega), uI_qI]
    by_cases h : g i = p <;> simp only [h, if_true, if_false]
  · intro k g _
    have h1 : nI no ≤ nI no := by rw [nI_leI (by omega) (by omega)]; omega
    simp only [e4, h1, if_true]
def tmV (v : Nat → Int64) (no f : Nat) : Nat → Int64 := if opn v f then udt (grV (clV (udt v (58 + 16 * f + 3) (Int32.toInt64 1)) no (nI f)) (fun _ => true) (nI f) (-1)) (58 + 16 * f + 9) (Int32.toInt64 3) else grV (clV (udt v (58 + 16 * f + 3) (Int32.toInt64 1)) no (nI f)) (fun _ => true) (nI f) (-1)
theorem grV_charT (v : Nat → Int64) (p q : Int32) : itr (fun c v => if v (250 + c) = p.toInt64 then udt v (250 + c) q.toInt64 else v) 0 900 v = grV v (fun _ => true) p q := by
  have := grV_char v (fun _ => true) p q
  simp only [true_and] at this
  exact this
theorem M_term (c : CV S ad b v np nf no mo) {f : Nat} (hf : f < nf) (hopn : opn (grV (clV (udt v (58 + 16 * f + 3) (Int32.toInt64 1)) no (nI f)) (fun _ => true) (nI f) (-1)) f = opn v f) : ∀ S', Mv S' ad v np nf no mo → act v f = true → 3 ≤ v (58 + 16 * f + 6) → ∃ S3, f_X12_terminate S' (ad 1) (nI f) = some (1, S3) ∧ RK S' S3 ad (tmV v no f) := by
  have h8 := c.hf
  have h16 := c.ho
  have f8 : f < 8 := by omega
  have t3 : Int32.toInt64 3 = 3 := rfl
  intro S' h ha h3
  have h1 := Mv_t h (ad 1) 2 0
  have hB : vin (nI f) nf = true := vin_nI hf (by omega)
  generalize hU : uI S' (ad 1) 2 0 = U at h1
  have eU : U = qJ U (ad 3) v := by rw [← h1.2.1, qJ_self]
  have eset : uJ U (ad 3) (58 + 16 * f + 3) 1 = qJ U (ad 3) (udt v (58 + 16 * f + 3) (Int32.toInt64 1)) := by
    conv => lhs; rw [eU, uJ_qJ]
    rfl
  have rk0 : RK S' U ad v := by rw [← hU]; exact RK.rf h
  refine ⟨qJ U (ad 3) (tmV v no f), ?_, RK_q rk0 h.1⟩
  unfold f_X12_terminate
  rw [lt_n, hU, M_isFr h1, hB, cl_n, jn_n]
  simp only [if_bI, if_true, M_throws0, cl_n, M_act h1 f8, ha, M_of6 h1 f8, h3, M_set h1 f8 (q := 3) (i := 3) (by decide) rfl, eset]
  rw [jn_n]
  have J0 : ∀ w : Nat → Int64, (∀ i, (i < 4 ∨ i = 58 + 16 * f + 9) → w i = v i) → Mv (qJ U (ad 3) w) ad w np nf no mo := fun w hw => Mv_q h1 (hw 1 (by omega)) (hw 2 (by omega)) (hw 3 (by omega)) (hw 0 (by omega))
  refine (lp_for0 (fun (k : Int32 → St → Option (Int32 × St)) i (w : Nat → Int64) => k (nI i) (qJ U (ad 3) w)) _ _ no (by omega) (fun o w => if w (186 + 4 * o + 0) = (nI f).toInt64 then udt w (186 + 4 * o + 0) (-1) else w) (fun w => some (1, qJ U (ad 3) (if opn v f then udt (itr (fun c v => if v (250 + c) = (nI f).toInt64 then udt v (250 + c) (Int32.toInt64 (-1)) else v) 0 900 w) (58 + 16 * f + 9) (Int32.toInt64 3) else itr (fun c v => if v (250 + c) = (nI f).toInt64 then udt v (250 + c) (Int32.toInt64 (-1)) else v) 0 900 w))) (fun _ w => ∀ i, (i < 4 ∨ i = 58 + 16 * f + 9) → w i = v i) (udt v (58 + 16 * f + 3) (Int32.toInt64 1)) (fun i hi => udt_n (by omega)) ?_ ?_ ?_).trans ?_
  · intro k o w ho' hJ
    have hw := J0 w hJ
    have h2 : ¬ w 3 ≤ Int32.toInt64 (nI o) := by rw [cM_o hw (by omega)]; omega
    simp only [lt_n, jn_n, r_1_0 hw.1, ld_3 hw, h2, if_false, M_oo0 hw (show o < 16 by omega), cl_n, nI_1, M_ooS hw (show o < 16 by omega) (q := 0) (i := 0) (by decide) rfl, uJ_qJ]
    by_cases e : w (186 + 4 * o + 0) = (nI f).toInt64 <;> simp only [e, if_true, if_false]
  · intro o w ho' hJ i hi
    by_cases e : w (186 + 4 * o + 0) = (nI f).toInt64
    · rw [if_pos e, udt_n (by omega)]; exact hJ i hi
    · rw [if_neg e]; exact hJ i hi
  · intro k w hJ
    have hw := J0 w hJ
    have h2 : w 3 ≤ Int32.toInt64 (nI no) := by rw [cM_o hw (by omega)]; omega
    rw [lt_n, r_1_0 hw.1, ld_3 hw, if_pos h2]
    refine (jn_n _ _).trans ?_
    refine lp_for0 (fun (k : Int32 → St → Option (Int32 × St)) i (w : Nat → Int64) => k (nI i) (qJ U (ad 3) w)) _ _ 900 (by decide) (fun c v => if v (250 + c) = (nI f).toInt64 then udt v (250 + c) (Int32.toInt64 (-1)) else v) (fun w => some (1, qJ U (ad 3) (if opn v f then udt w (58 + 16 * f + 9) (Int32.toInt64 3) else w))) (fun _ w => ∀ i, (i < 4 ∨ i = 58 + 16 * f + 9) → w i = v i) w hJ ?_ ?_ ?_
    · intro k l w hl hJ
      have hw := J0 w hJ
      rw [if_neg (ge900 hl)]
      simp only [lt_n, jn_n, r_1_0 hw.1, ad250, ld3 h1.1 (show 250 + l < 20216 by omega), st3 h1.1 (show 250 + l < 20216 by omega), nI_1]
      by_cases e : w (250 + l) = (nI f).toInt64
      · simp only [e, if_true, tl_m1]
      · simp only [e, if_false]
    · intro l w hl hJ i hi
      by_cases e : w (250 + l) = (nI f).toInt64
      · rw [if_pos e, udt_n (by omega)]; exact hJ i hi
      · rw [if_neg e]; exact hJ i hi
    · intro k w hJ
      have hw := J0 w hJ
      have ho : opn w f = opn v f := by unfold opn; rw [hJ _ (Or.inr rfl)]
      rw [if_pos le900]
      simp only [M_openT hw f8, ho, cl_n, if_bI]
      cases opn v f
      · simp only [Bool.false_eq_true, if_false]
      · simp only [if_true, M_set hw f8 (q := 9) (i := 9) (by decide) rfl, cl_n, uJ_qJ, t3]
  · rw [clV_char, grV_charT, tmV]
theorem MK_term (c : CV S ad b v np nf no mo) {f : Nat} (hf : f < nf) : ∃ S1 v', MK S S1 ad b v v' np nf no mo ∧ f_X1_endContract S (ad b) (nI f) = (if act v f = true ∧ 3 ≤ v (58 + 16 * f + 6) then some (1, S1) else some (0, S)) ∧ (∀ S', Mv S' ad v np nf no mo → act v f = true → 3 ≤ v (58 + 16 * f + 6) → ∃ S3, f_X12_terminate S' (ad 1) (nI f) = some (1, S3) ∧ RK S' S3 ad v') := by
  have h8 := c.hf
  have hm := c.hm
  have f8 : f < 8 := by omega
  have hb := c.hb
  have m1 := MK_status c hf 1
  have c1 := m1.cv c
  have m2 := MK_close c1 (nI f)
  have c2 := m2.cv c1
  have hop : ∀ o, o < no → clV (udt v (58 + 16 * f + 3) (Int32.toInt64 1)) no (nI f) (186 + 4 * o + 0) ≠ -1 → ¬ ((fun _ => true) (30 * oy (clV (udt v (58 + 16 * f + 3) (Int32.toInt64 1)) no (nI f)) o + ox (clV (udt v (58 + 16 * f + 3) (Int32.toInt64 1)) no (nI f)) o) = true ∧ clV (udt v (58 + 16 * f + 3) (Int32.toInt64 1)) no (nI f) (250 + (30 * oy (clV (udt v (58 + 16 * f + 3) (Int32.toInt64 1)) no (nI f)) o + ox (clV (udt v (58 + 16 * f + 3) (Int32.toInt64 1)) no (nI f)) o)) = (nI f).toInt64) := by
    rintro o ho hne ⟨-, hcell⟩
    obtain ⟨⟨x, y, hx, hy, e1, e2, e3⟩, -⟩ := c2.w.2.2.2.1 o ho
    have ex : ox (clV (udt v (58 + 16 * f + 3) (Int32.toInt64 1)) no (nI f)) o = x := by rw [ox, e1, lN_toInt (by omega)]; omega
    have ey : oy (clV (udt v (58 + 16 * f + 3) (Int32.toInt64 1)) no (nI f)) o = y := by rw [oy, e2, lN_toInt (by omega)]; omega
    rcases e3 with e3 | ⟨g, hg, e5, e6⟩
    · exact hne e3
    · rw [ex, ey, e6, nI_l (by omega), lN_eq (by omega) (by omega)] at hcell
      subst hcell
      rw [clV_0 ho, ← nI_l (show g < 2 ^ 31 by omega)] at e5
      by_cases h : udt v (58 + 16 * g + 3) (Int32.toInt64 1) (186 + 4 * o + 0) = (nI g).toInt64
      · rw [if_pos h, ← tl_m1, tl_eq] at e5
        exact nI_m1 (by omega) e5.symm
      · rw [if_neg h] at e5; exact h e5
  have m3 := MK_grid c2 (fun _ => true) (nI f) (-1) (Or.inl rfl) hop
  have c3 := m3.cv c2
  have hW : win 0 0 30 30 = fun c => decide (c < 900) := by
    funext c; unfold win; exact decide_eq_decide.mpr (by omega)
  have mm := (m1.trans m2).trans m3
  have eov : v (58 + 16 * f + 6) = (gI S (ad (b + 25)) f).toInt64 := (c.F f hf).2.2.2.2.2
  have hopn : opn (grV (clV (udt v (58 + 16 * f + 3) (Int32.toInt64 1)) no (nI f)) (fun _ => true) (nI f) (-1)) f = opn v f := by
    unfold opn; rw [grV_n (by omega), clV_n (by omega) c.ho, udt_n (by omega)]
  have hmv : f_X3_move (qI (uI S (ad (b + 23)) f 1) (ad (b + 15)) (clG no (nI f) (gI (uI S (ad (b + 23)) f 1) (ad (b + 15))))) (ad (b + 2)) (nI f) (-1) 0 0 30 30 = some (nI (sm (mvN (win 0 0 30 30) (nI f) (gI (qI (uI S (ad (b + 23)) f 1) (ad (b + 15)) (clG no (nI f) (gI (uI S (ad (b + 23)) f 1) (ad (b + 15))))) (ad (b + 12)))) 900), qI (qI (uI S (ad (b + 23)) f 1) (ad (b + 15)) (clG no (nI f) (gI (uI S (ad (b + 23)) f 1) (ad (b + 15))))) (ad (b + 12)) (mvG (win 0 0 30 30) (nI f) (-1) 900 (gI (qI (uI S (ad (b + 23)) f 1) (ad (b + 15)) (clG no (nI f) (gI (uI S (ad (b + 23)) f 1) (ad (b + 15))))) (ad (b + 12))))) := G_move (x1 := 0) (y1 := 0) (m := 30) (n := 30) (r_b2_0 c2.t hb) (n_b12 c2.t hb) (nI f) (-1) (by omega) (by omega)
  have hmg : ∀ g, mvG (win 0 0 30 30) (nI f) (-1) 900 g = mvG (fun _ => true) (nI f) (-1) 900 g := fun g => by
    funext l
    simp only [mvG, hW, decide_eq_true_eq]
    by_cases h : l < 900 <;> simp [h]
  rw [hmg] at hmv
  have hcl := C_closeAll c1 (nI f)
  have he := C_endOpen c3 hf 3
  rw [hopn] at he
  have eact : (3 ≤ gI S (ad (b + 25)) f) = (3 ≤ v (58 + 16 * f + 6)) := by rw [eov, show (3 : Int64) = (3 : Int32).toInt64 from rfl, tl_le]
  have hcond : ∀ (S1 : St), (∀ o1, f_X10_endOpen (qI (qI (uI S (ad (b + 23)) f 1) (ad (b + 15)) (clG no (nI f) (gI (uI S (ad (b + 23)) f 1) (ad (b + 15))))) (ad (b + 12)) (mvG (fun _ => true) (nI f) (-1) 900 (gI (qI (uI S (ad (b + 23)) f 1) (ad (b + 15)) (clG no (nI f) (gI (uI S (ad (b + 23)) f 1) (ad (b + 15))))) (ad (b + 12))))) (ad (b + 5)) (nI f) 3 = some o1 → o1.2 = S1) → f_X1_endContract S (ad b) (nI f) = (if act v f = true ∧ 3 ≤ v (58 + 16 * f + 6) then some (1, S1) else some (0, S)) := by
    intro S1 hS
    simp only [f_X1_endContract, lt_e, r_b0_3 c.t hb, C_act c hf, cl_s, if_bI, r_b4_6 c.t hb, lb25 c.t hb f8, eact, r_b4_4 c.t hb, sb23 c.t hb f8, r_b0_2 c1.t hb, hcl, r_b0_1 c2.t hb, hmv, r_b0_4 c3.t hb]
    cases ha : act v f
    · simp
    · by_cases h3 : 3 ≤ v (58 + 16 * f + 6)
      · simp only [h3, if_true, and_self]
        cases ho : opn v f
        · rw [ho] at he
          rw [he] at hS ⊢
          simp only [Bool.false_eq_true, if_false, cl_s]
          rw [← hS _ rfl]
        · rw [ho] at he
          rw [he] at hS ⊢
          simp only [if_true, cl_s]
          rw [← hS _ rfl]
      · simp [h3]
  have hM := M_term c hf hopn
  unfold tmV at hM
  cases ho : opn v f
  · refine ⟨_, _, mm, hcond _ (fun o1 e => ?_), fun S' h ha h3 => ?_⟩
    · rw [he, ho] at e
      simp only [Bool.false_eq_true, if_false, Option.some.injEq] at e
      rw [← e]
    · have := hM S' h ha h3
      rw [ho] at this
      exact this
  · have m4 := MK_state c3 hf 3 (Or.inl (by decide))
    refine ⟨_, _, mm.trans m4, hcond _ (fun o1 e => ?_), fun S' h ha h3 => ?_⟩
    · rw [he, ho] at e
      simp only [if_true, Option.some.injEq] at e
      rw [← e]
    · have := hM S' h ha h3
      rw [ho] at this
      exact this
theorem Q_terminate (c : CV S ad b v np nf no mo) (p : Int32) : QM S ad b v np nf no mo [(1, 1)] (f_X11_terminate S (ad 0) p) (fun S' => f_X12_terminate S' (ad 1) p) := by
  have h8 := c.hf
  cases hB : vin p nf
  · refine Or.inr ⟨1, 1, by simp, by simp [f_X11_terminate, C_reqF c, hB, clx_r], fun S' h => ⟨0, ?_⟩⟩
    show f_X12_terminate S' (ad 1) p = _
    unfold f_X12_terminate
    rw [lt_n, M_isFr (Mv_t h (ad 1) 2 0), hB, cl_n, jn_n]
    simp only [if_bI, Bool.false_eq_true, if_false, M_throws1, cl_n, uI_uI, i10]
  · obtain ⟨f, hf, rfl⟩ := vin_of (by omega) hB
    have f8 : f < 8 := by omega
    obtain ⟨S1, v', mk, hx, hy⟩ := MK_term c hf
    by_cases hok : act v f = true ∧ 3 ≤ v (58 + 16 * f + 6)
    · refine Or.inl ⟨1, S1, v', no, mo, ?_, mk, fun S' h => hy S' h hok.1 hok.2⟩
      rw [if_pos hok] at hx
      simp only [f_X11_terminate, C_reqF c, hB, if_true, clx_l, lt_e, c.r, hx, cl_s, zc_1]
    · refine Or.inl ⟨0, S, v, no, mo, ?_, MK.rf c, fun S' h => ⟨_, ?_, RK.rf h⟩⟩
      · rw [if_neg hok] at hx
        simp only [f_X11_terminate, C_reqF c, hB, if_true, clx_l, lt_e, c.r, hx, cl_s, zc_0]
      · have h1 := Mv_t h (ad 1) 2 0
        show f_X12_terminate S' (ad 1) (nI f) = _
        unfold f_X12_terminate
        rw [lt_n, M_isFr h1, hB, cl_n, jn_n]
        simp only [if_bI, if_true, M_throws0, cl_n, M_act h1 f8, M_of6 h1 f8]
        cases ha : act v f
        · simp only [Bool.false_eq_true, if_false]
        · have h3 : ¬ 3 ≤ v (58 + 16 * f + 6) := fun e => hok ⟨ha, e⟩
          simp only [if_true, h3, if_false]
