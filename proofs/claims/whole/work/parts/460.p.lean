/-! the pure part: ceding cells, the reference's side -/
variable {S S0 S1 S2 S' S'' S3 X Y : St} {ad : Nat → Nat} {b d j k : Nat} {v v0 v' v1 v2 u w : Nat → Int64} {np nf no mo no' mo' x y : Nat}
def mcK (p0 : Nat) (p1 p2 : Int32) (x15 x16 : Int32) (S17 : St) : Option (Int32 × St) := if x15 = 0 then (some (0, S17)) else (if x16 = 0 then (cl (f_X12_give S17 p0 p2) fun (S20 : St) => cl (f_X12_connected S20 p0 p1) fun (o21 : Int32 × St) => jn (κ := St → Option (Int32 × St)) (fun S22 => cl (f_X12_give S22 p0 p1) fun (S25 : St) => some ((-2), S25)) fun k23 => if o21.1 = 0 then (k23 o21.2) else (cl (f_X12_connected o21.2 p0 p2) fun (o26 : Int32 × St) => if o26.1 = 0 then (k23 o26.2) else (some (x15, o26.2)))) else (some ((-2), S17)))
def mcT (S : St) (p0 : Nat) (p1 p2 p3 p4 p5 p6 : Int32) : Option (Int32 × St) := jn (κ := Int32 → Int32 → St → Option (Int32 × St)) (mcK p0 p1 p2) fun k18 => lp (κ := Int32 → Int32 → Int32 → St → Option (Int32 × St)) (fun _ _ _ _ => none) (fun k31 x27 x28 x29 S30 => if 900 ≤ x29 then (k18 x27 x28 S30) else (lt (gR S30 p0 4) fun (a33 : Nat) => lt (gR S30 p0 0) fun (a35 : Nat) => ldJ S30 a35 (250 + x29) fun (v37 : Int64) => jn (κ := Int32 → Option (Int32 × St)) (fun x38 => stI S30 a33 x29 (vp_nar .boolean x38) fun (S41 : St) => lt (gR S41 p0 4) fun (a42 : Nat) => ldI S41 a42 x29 fun (v44 : Int32) => jn (κ := Int32 → Option (Int32 × St)) (fun x45 => lt (x27 + x45) fun (v48 : Int32) => lt (gR S41 p0 4) fun (a49 : Nat) => ldI S41 a49 x29 fun (v51 : Int32) => jn (κ := Int32 → Option (Int32 × St)) (fun x52 => lt (x28 ||| x52) fun (v55 : Int32) => k31 v48 v55 (x29 + 1) S41) fun k53 => jn (κ := Option (Int32 × St)) (k53 0) fun k56 => if v51 = 0 then (k56) else (cl (f_X12_hasOutlet S41 p0 x29) fun (v58 : Int32) => if v58 = 0 then (k56) else (k53 1))) fun k46 => if v44 = 0 then (k46 0) else (k46 1)) fun k39 => jn (κ := Option (Int32 × St)) (k39 0) fun k59 => if v37 = (Int32.toInt64 p1) then (cl (f_X12_isWithin S30 x29 p3 p4 p5 p6) fun (v61 : Int32) => if v61 = 0 then (k59) else (k39 1)) else (k59))) FU 0 0 0 S
theorem mcE (S : St) (p0 : Nat) (p1 p2 p3 p4 p5 p6 : Int32) : f_X12_cede S p0 p1 p2 p3 p4 p5 p6 = (lt (uI S p0 2 0) fun (S1 : St) => cl (f_X12_isFranchisee S1 p0 p1) fun (v2 : Int32) => jn (κ := Int32 → Option (Int32 × St)) (fun x3 => cl (f_X12_throwsIf S1 p0 x3 1) fun (o6 : Int32 × St) => if o6.1 = 0 then (jn (κ := Int32 → Option (Int32 × St)) (fun x7 => cl (f_X12_throwsIf o6.2 p0 x7 2) fun (o10 : Int32 × St) => if o10.1 = 0 then (cl (f_X12_isActive o10.2 p0 p1) fun (v11 : Int32) => jn (κ := Option (Int32 × St)) (some ((-2), o10.2)) fun k12 => if v11 = 0 then (k12) else (cl (f_X12_isActive o10.2 p0 p2) fun (v14 : Int32) => if v14 = 0 then (k12) else (mcT o10.2 p0 p1 p2 p3 p4 p5 p6))) else (some (0, o10.2))) fun k8 => jn (κ := Option (Int32 × St)) (k8 1) fun k62 => if p1 = p2 then (k62) else (cl (f_X12_isArea o6.2 p3 p4 p5 p6) fun (v64 : Int32) => if v64 = 0 then (k62) else (k8 0))) else (some (0, o6.2))) fun k4 => jn (κ := Option (Int32 × St)) (k4 1) fun k65 => if v2 = 0 then (k65) else (cl (f_X12_isFranchisee S1 p0 p2) fun (v67 : Int32) => if v67 = 0 then (k65) else (k4 0))) := by
  unfold f_X12_cede mcT
  rfl
theorem M_isWithin (S : St) {c x1 y1 m n : Nat} (hc : c < 900) (hx : x1 + m ≤ 30) (hy : y1 + n ≤ 30) : f_X12_isWithin S (nI c) (nI x1) (nI y1) (nI (x1 + m)) (nI (y1 + n)) = some (bI (win x1 y1 m n c)) := by
  unfold f_X12_isWithin win
  rw [jn_n, rm30 (by omega), dv30 (by omega)]
  have e1 : (nI (c % 30) < nI x1) = (c % 30 < x1) := by rw [nI_ltI (by omega) (by omega)]
  have e2 : (nI (x1 + m) ≤ nI (c % 30)) = (x1 + m ≤ c % 30) := by rw [nI_leI (by omega) (by omega)]
  have e3 : (nI (c / 30) < nI y1) = (c / 30 < y1) := by rw [nI_ltI (by omega) (by omega)]
  have e4 : (nI (y1 + n) ≤ nI (c / 30)) = (y1 + n ≤ c / 30) := by rw [nI_leI (by omega) (by omega)]
  simp only [e1, e2, e3, e4]
  by_cases h1 : c % 30 < x1
  · rw [if_pos h1, decide_eq_false (by omega)]; rfl
  · rw [if_neg h1]
    by_cases h2 : x1 + m ≤ c % 30
    · rw [if_pos h2, decide_eq_false (by omega)]; rfl
    · rw [if_neg h2]
      by_cases h3 : c / 30 < y1
      · rw [if_pos h3, decide_eq_false (by omega)]; rfl
      · rw [if_neg h3]
        by_cases h4 : y1 + n ≤ c / 30
        · rw [if_pos h4, decide_eq_false (by omega)]; rfl
        · rw [if_neg h4, decide_eq_true (by omega)]; rfl
/-- the rectangles that are allowed -/
def rct (p q r s : Int32) : Bool := vin p 30 && vin q 30 && (decide (p < r) && decide (r ≤ 30)) && (decide (q < s) && decide (s ≤ 30))
theorem rng_p (p r : Int32) (hp : vin p 30 = true) : (decide ((p + 1).toInt64 ≤ r.toInt64) && decide (r.toInt64 ≤ 30)) = (decide (p < r) && decide (r ≤ 30)) := by
  obtain ⟨x, hx, rfl⟩ := vin_of (by decide) hp
  have e1 : ((nI x + 1).toInt64 ≤ r.toInt64) = (nI x < r) := by
    rw [tl_le, nI_1, Int32.le_iff_toInt_le, Int32.lt_iff_toInt_lt, nI_toInt (by omega), nI_toInt (by omega)]
    exact propext ⟨fun h => by omega, fun h => by omega⟩
  have e2 : (r.toInt64 ≤ 30) = (r ≤ 30) := by rw [show (30 : Int64) = (30 : Int32).toInt64 from rfl, tl_le]
  simp only [e1, e2]
theorem M_isArea (S : St) (p q r s : Int32) : f_X12_isArea S p q r s = some (bI (rct p q r s)) := by
  unfold f_X12_isArea rct
  rw [M_isCell, cl_n, jn_n]
  simp only [M_inRange, cl_n, if_bI]
  cases hp : vin p 30
  · rfl
  · cases hq : vin q 30
    · rfl
    · rw [rng_p p r hp, rng_p q s hq]
      cases (decide (p < r) && decide (r ≤ 30)) <;> cases (decide (q < s) && decide (s ≤ 30)) <;> rfl
theorem hO_ex (v : Nat → Int64) (q : Nat) : ∀ n m, hO v q n m = true ↔ ∃ o, m ≤ o ∧ o < m + n ∧ v (186 + 4 * o + 0) ≠ -1 ∧ 30 * oy v o + ox v o = q := by
  intro n
  induction n with
  | zero => intro m; exact ⟨fun h => by simp [hO] at h, fun ⟨o, h1, h2, _⟩ => absurd h2 (by omega)⟩
  | succ n ih =>
    intro m
    simp only [hO, Bool.or_eq_true, Bool.and_eq_true, Bool.not_eq_true', decide_eq_false_iff_not, decide_eq_true_eq, ih]
    constructor
    · rintro (⟨h1, h2⟩ | ⟨o, h1, h2, h3⟩)
      · exact ⟨m, by omega, by omega, h1, h2⟩
      · exact ⟨o, by omega, by omega, h3⟩
    · rintro ⟨o, h1, h2, h3, h4⟩
      by_cases e : o = m
      · subst e; exact Or.inl ⟨h3, h4⟩
      · exact Or.inr ⟨o, by omega, by omega, h3, h4⟩
def cdS (M H : Nat → Bool) (i : Nat) (s : Int32 × Int32 × (Nat → Int32)) : Int32 × Int32 × (Nat → Int32) := (s.1 + bI (M i), s.2.1 ||| bI (M i && H i), udt s.2.2 i (bI (M i)))
def cdB (M H : Nat → Bool) : Nat → Bool
  | 0 => false
  | n + 1 => cdB M H n || (M n && H n)
theorem cdB_iff (M H : Nat → Bool) : ∀ n, cdB M H n = true ↔ ∃ c, c < n ∧ M c = true ∧ H c = true := by
  intro n
  induction n with
  | zero => simp [cdB]
  | succ n ih =>
    simp only [cdB, Bool.or_eq_true, Bool.and_eq_true, ih]
    constructor
    · rintro (⟨c, h1, h2⟩ | h)
      · exact ⟨c, by omega, h2⟩
      · exact ⟨n, by omega, h⟩
    · rintro ⟨c, h1, h2⟩
      by_cases e : c = n
      · subst e; exact Or.inr h2
      · exact Or.inl ⟨c, by omega, h2⟩
theorem bI_nI (B : Bool) : bI B = nI (if B then 1 else 0) := by cases B <;> rfl
theorem bI_or (A B : Bool) : bI A ||| bI B = bI (A || B) := by cases A <;> cases B <;> decide
theorem cd_char (M H : Nat → Bool) (R : Nat → Int32) : ∀ n, itr (cdS M H) 0 n (0, 0, R) = (nI (sm (fun c => if M c then 1 else 0) n), bI (cdB M H n), fun i => if i < n then bI (M i) else R i) := by
  intro n
  induction n with
  | zero =>
    refine Prod.ext rfl (Prod.ext rfl (funext fun i => ?_))
    show R i = if i < 0 then bI (M i) else R i
    rw [if_neg (by omega)]
  | succ n ih =>
    rw [itr_succ, ih, Nat.zero_add, cdS]
    refine Prod.ext ?_ (Prod.ext ?_ ?_)
    · show nI _ + bI (M n) = nI (sm _ n + _)
      rw [bI_nI, nI_add]
    · show bI _ ||| bI _ = _
      rw [bI_or]; rfl
    · show udt (fun i => if i < n then bI (M i) else R i) n (bI (M n)) = fun i => if i < n + 1 then bI (M i) else R i
      funext i
      by_cases e : i = n
      · rw [e, udt_e, if_pos (by omega)]
      · rw [udt_n e]
        by_cases h : i < n
        · rw [if_pos h, if_pos (by omega)]
        · rw [if_neg h, if_neg (by omega)]
def giV (v : Nat → Int64) (R : Nat → Int32) (p : Int32) : Nat → Int64 := fun i => if (250 ≤ i ∧ i < 1150) ∧ R (i - 250) ≠ 0 then p.toInt64 else v i
theorem giV_pt (v : Nat → Int64) (R : Nat → Int32) (p : Int32) : ∀ n i, itr (fun c (g : Nat → Int64) => if R c = 0 then g else udt g (250 + c) p.toInt64) 0 n v i = if (250 ≤ i ∧ i < 250 + n) ∧ R (i - 250) ≠ 0 then p.toInt64 else v i := by
  intro n
  induction n with
  | zero => intro i; exact (if_neg (fun q => absurd q.1 (by omega))).symm
  | succ n ih =>
    intro i
    rw [itr_succ, Nat.zero_add]
    have hh : i ≠ 250 + n → ((250 ≤ i ∧ i < 250 + (n + 1)) ↔ (250 ≤ i ∧ i < 250 + n)) := by omega
    by_cases h : R n = 0
    · rw [if_pos h, ih i]
      by_cases e : i = 250 + n
      · rw [if_neg (fun q => absurd q.1.2 (by omega)), if_neg]
        rintro ⟨-, q⟩
        exact q (by rw [e, Nat.add_sub_cancel_left]; exact h)
      · simp only [hh e]
    · rw [if_neg h]
      by_cases e : i = 250 + n
      · rw [e, udt_e, if_pos ⟨by omega, by rw [Nat.add_sub_cancel_left]; exact h⟩]
      · rw [udt_n e, ih i]
        simp only [hh e]
theorem M_give (h : Mv S ad v np nf no mo) {R : Nat → Int32} (hR : ∀ i, i < 900 → gI S (ad 6) i = R i) (p : Int32) : f_X12_give S (ad 1) p = some (qJ S (ad 3) (giV v R p)) := by
  unfold f_X12_give
  have t := h.1
  have e0 : qJ S (ad 3) v = S := by rw [← h.2.1, qJ_self]
  conv => lhs; rw [← e0]
  refine (lp_for0 (fun (k : Int32 → St → Option St) i (g : Nat → Int64) => k (nI i) (qJ S (ad 3) g)) _ _ 900 (by decide) (fun c g => if R c = 0 then g else udt g (250 + c) p.toInt64) (fun g => some (qJ S (ad 3) g)) (fun _ _ => True) v trivial ?_ (fun _ _ _ _ => trivial) ?_).trans ?_
  · intro k i g hi _
    have tg : TR (qJ S (ad 3) g) ad := TR_SR0 (SR0_qJ _ _ _) t
    rw [if_neg (ge900 hi), lt_n, r_1_4 tg, ldI_at (by rw [n_6 tg]; exact hi) (by rw [n_6 tg]; decide), gI_qJ, hR i hi, jn_n]
    by_cases h0 : R i = 0
    · rw [if_pos h0, if_pos h0, nI_1]
    · rw [if_neg h0, if_neg h0, lt_n, r_1_0 tg, ad250, st3 t (by omega), nI_1]
  · intro k g _
    rw [if_pos le900]
  · exact congrArg (fun g => some (qJ S (ad 3) g)) (funext fun i => giV_pt v R p 900 i)
/-- which cells move -/
def mvB (v : Nat → Int64) (P : Nat → Bool) (p : Int32) (c : Nat) : Bool := decide (v (250 + c) = p.toInt64) && P c
theorem vn0 : vp_nar .boolean 0 = 0 := by decide
theorem vn1 : vp_nar .boolean 1 = 1 := by decide
theorem M_mcT (h : Mv S ad v np nf no mo) (w : WF v np nf no mo) (p q : Int32) {x1 y1 m n : Nat} (hx : x1 + m ≤ 30) (hy : y1 + n ≤ 30) : mcT S (ad 1) p q (nI x1) (nI y1) (nI (x1 + m)) (nI (y1 + n)) = mcK (ad 1) p q (nI (sm (fun c => if mvB v (win x1 y1 m n) p c then 1 else 0) 900)) (bI (cdB (mvB v (win x1 y1 m n) p) (fun c => hO v c no 0) 900)) (qI S (ad 6) (fun i => if i < 900 then bI (mvB v (win x1 y1 m n) p i) else gI S (ad 6) i)) := by
  unfold mcT
  refine (jn_n _ _).trans ?_
  have e0 : qI S (ad 6) (gI S (ad 6)) = S := qI_self _ _
  conv => lhs; rw [← e0]
  refine (lp_for0 (fun (k : Int32 → Int32 → Int32 → St → Option (Int32 × St)) i (s : Int32 × Int32 × (Nat → Int32)) => k s.1 s.2.1 (nI i) (qI S (ad 6) s.2.2)) _ _ 900 (by decide) (cdS (mvB v (win x1 y1 m n) p) (fun c => hO v c no 0)) (fun s => mcK (ad 1) p q s.1 s.2.1 (qI S (ad 6) s.2.2)) (fun _ _ => True) (0, 0, gI S (ad 6)) trivial ?_ (fun _ _ _ _ => trivial) ?_).trans ?_
  · rintro k i ⟨a, bd, R⟩ hi -
    have hR := Mv_qI h (ad 6) R
    have tR := hR.1
    have stp : ∀ z (K : St → Option (Int32 × St)), stI (qI S (ad 6) R) (ad 6) (nI i) z K = K (qI S (ad 6) (udt R i z)) := fun z K => by
      rw [stI_at (by rw [n_6 tR]; exact hi) (by rw [n_6 tR]; decide), uI_qI]
    have ldp : ∀ z (K : Int32 → Option (Int32 × St)), ldI (qI S (ad 6) (udt R i z)) (ad 6) (nI i) K = K z := fun z K => by
      have tz := (Mv_qI h (ad 6) (udt R i z)).1
      rw [ldI_at (by rw [n_6 tz]; exact hi) (by rw [n_6 tz]; decide), gI_qI, if_pos rfl, udt_e]
    have r4 : ∀ z, gR (qI S (ad 6) (udt R i z)) (ad 1) 4 = ad 6 := fun z => r_1_4 (Mv_qI h (ad 6) (udt R i z)).1
    have hOz : ∀ z, f_X12_hasOutlet (qI S (ad 6) (udt R i z)) (ad 1) (nI i) = some (bI (hO v i no 0)) := fun z => M_hasOut' (Mv_qI h (ad 6) (udt R i z)) w hi
    show (if 900 ≤ nI i then _ else _) = k (a + bI (mvB v (win x1 y1 m n) p i)) (bd ||| bI (mvB v (win x1 y1 m n) p i && hO v i no 0)) (nI (i + 1)) (qI S (ad 6) (udt R i (bI (mvB v (win x1 y1 m n) p i))))
    rw [if_neg (ge900 hi)]
    simp only [lt_n, r_1_4 tR, r_1_0 tR, ldSe hR (ad250 i) (show 250 + i < 20216 by omega), jn_n, M_isWithin _ hi hx hy, cl_n, if_bI, stp, vn0, vn1, r4, ldp, i10, if_true, if_false, hOz, nI_1, mvB]
    by_cases hv : v (250 + i) = p.toInt64
    · rw [if_pos hv, decide_eq_true hv]
      cases hw : win x1 y1 m n i
      · rfl
      · cases hh : hO v i no 0 <;> rfl
    · rw [if_neg hv, decide_eq_false hv]
      rfl
  · rintro k ⟨a, bd, R⟩ -
    show (if 900 ≤ nI 900 then _ else _) = _
    rw [if_pos le900]
  · rw [cd_char]
