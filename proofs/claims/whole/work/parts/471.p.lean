/-! the pure part: numbers of a text, errors -/
variable {S S0 S1 S2 S' S'' S3 X Y : St} {ad : Nat → Nat} {b d j k : Nat} {v v0 v' v1 v2 u w : Nat → Int64} {np nf no mo no' mo' x y : Nat}
/-- the number that digits spell -/
def nmD (g : Nat → Int32) : Nat → Nat
  | 0 => 0
  | m + 1 => nmD g m * 10 + ((g m).toInt.toNat - 48)
theorem dg_of {x : Int32} (h : isDg x = true) : ∃ q, q ≤ 9 ∧ x = nI (48 + q) ∧ x.toInt.toNat - 48 = q := by
  rw [isDg, Bool.and_eq_true, decide_eq_true_eq, decide_eq_true_eq] at h
  refine ⟨x.toInt.toNat - 48, by omega, Int32.toInt_inj.mp ?_, rfl⟩
  rw [nI_toInt (by omega)]; omega
theorem nm_all {B : Nat → Int32} {s : Nat} : ∀ m, m ≤ 6 → (∀ i, i < m → isDg (B (s + i)) = true) → nmD (fun i => B (s + i)) m < 10 ^ m ∧ cvl B s m = nI (nmD (fun i => B (s + i)) m) ∧ dgd (fun i => B (s + i)) m = lN (nmD (fun i => B (s + i)) m) := by
  intro m
  induction m with
  | zero => intro _ _; exact ⟨Nat.zero_lt_one, rfl, rfl⟩
  | succ m ih =>
    intro hm h
    obtain ⟨h1, h2, h3⟩ := ih (by omega) (fun i hi => h i (by omega))
    obtain ⟨q, hq, e1, e2⟩ := dg_of (h m (by omega))
    have e3 : nmD (fun i => B (s + i)) (m + 1) = nmD (fun i => B (s + i)) m * 10 + q := by rw [nmD, e2]
    rw [e3, cvl, dgd, h2, h3, e1]
    generalize nmD (fun i => B (s + i)) m = N at h1
    refine ⟨by rw [Nat.pow_succ]; omega, ?_, ?_⟩
    · rw [um10, nI_add, show (48 : Int32) = nI 48 from rfl, nI_sub (by omega)]
      rw [show N * 10 + (48 + q) - 48 = N * 10 + q by omega]
    · rw [nI_l (by omega), show (10 : Int64) = lN 10 from rfl, lN_mul, lN_add, show (48 : Int64) = lN 48 from rfl, lN_sub (by omega)]
      rw [show N * 10 + (48 + q) - 48 = N * 10 + q by omega]
def tkN (B : Nat → Int32) (n e : Nat) : Nat := nmD (fun i => B (tkS B n e + i)) (tkR B n e - tkS B n e)
theorem tkK_2 {B : Nat → Int32} {n e : Nat} (he : e ≤ n) (h : tkK B n e = 2) : tk0 B n e = 2 ∧ tkR B n e - tkS B n e ≤ 6 ∧ ∀ i, i < tkR B n e - tkS B n e → isDg (B (tkS B n e + i)) = true := by
  have z1 : tk0 B n e = 2 ∧ tkR B n e - tkS B n e ≤ 6 := by
    unfold tkK at h
    by_cases w : (tk0 B n e = 1 ∧ 10 < tkR B n e - tkS B n e) ∨ (tk0 B n e = 2 ∧ 6 < tkR B n e - tkS B n e)
    · rw [if_pos w] at h; omega
    · rw [if_neg w] at h; omega
  refine ⟨z1.1, z1.2, fun i hi => ?_⟩
  obtain ⟨-, r2, r3⟩ := tkR_f (B := B) he
  have := (r3 (Or.inr z1.1)).2 (tkS B n e + i) (by omega) (by omega)
  rw [z1.1, kc, if_pos (by omega), ck_2] at this
  exact this
theorem tkK_1 {B : Nat → Int32} {n e : Nat} (he : e ≤ n) (h : tkK B n e = 1) : tk0 B n e = 1 ∧ WD (fun i => B (tkS B n e + i)) (tkR B n e - tkS B n e) := by
  have z1 : tk0 B n e = 1 ∧ tkR B n e - tkS B n e ≤ 10 := by
    unfold tkK at h
    by_cases w : (tk0 B n e = 1 ∧ 10 < tkR B n e - tkS B n e) ∨ (tk0 B n e = 2 ∧ 6 < tkR B n e - tkS B n e)
    · rw [if_pos w] at h; omega
    · rw [if_neg w] at h; omega
  obtain ⟨r1, r2, r3⟩ := tkR_f (B := B) he
  obtain ⟨r4, r5⟩ := r3 (Or.inl z1.1)
  refine ⟨z1.1, by omega, z1.2, fun i hi => ?_⟩
  have := r5 (tkS B n e + i) (by omega) (by omega)
  rw [z1.1, kc, if_pos (by omega), ck_1] at this
  exact this
theorem tkN_f {B : Nat → Int32} {n e : Nat} (he : e ≤ n) (h : tkK B n e = 2) : tkN B n e < 1000000 ∧ cvl B (tkS B n e) (tkR B n e - tkS B n e) = nI (tkN B n e) ∧ dgd (fun i => B (tkS B n e + i)) (tkR B n e - tkS B n e) = lN (tkN B n e) := by
  obtain ⟨-, h6, hd⟩ := tkK_2 he h
  obtain ⟨h1, h2, h3⟩ := nm_all _ h6 hd
  exact ⟨Nat.lt_of_lt_of_le h1 (Nat.le_trans (Nat.pow_le_pow_right (by decide) h6) (by decide)), h2, h3⟩
theorem tkK_le {B : Nat → Int32} {n e : Nat} : tkK B n e ≤ 5 := by
  unfold tkK
  by_cases w : (tk0 B n e = 1 ∧ 10 < tkR B n e - tkS B n e) ∨ (tk0 B n e = 2 ∧ 6 < tkR B n e - tkS B n e)
  · rw [if_pos w]; decide
  · rw [if_neg w]; exact kc_le B n _
/-! the ledger: where it stands, and its first error (code and place) -/
def qor (q r : Option (Nat × Nat)) : Option (Nat × Nat) := match q with
  | none => r
  | some x => some x
def ER (T : Nat → Int32) (q : Option (Nat × Nat)) : Prop := match q with
  | none => T 5 = 0 ∧ T 6 = -1
  | some (c, p) => (1 ≤ c ∧ c ≤ 5 ∧ p ≤ 1500) ∧ T 5 = nI c ∧ T 6 = nI p
/-- it stands behind the place e -/
def CS (T : Nat → Int32) (n e : Nat) (q : Option (Nat × Nat)) : Prop := T 1 = nI n ∧ T 4 = nI e ∧ e ≤ n ∧ ER T q
/-- it stands at the token that follows e -/
def CT1 (B : Nat → Int32) (T : Nat → Int32) (n e : Nat) (q : Option (Nat × Nat)) : Prop := T 1 = nI n ∧ T 2 = nI (tkK B n e) ∧ T 3 = nI (tkS B n e) ∧ T 4 = nI (tkR B n e) ∧ e ≤ n ∧ ER T q ∧ (tkK B n e = 2 → T 7 = nI (tkN B n e))
theorem CT1.cs {B T : Nat → Int32} {n e : Nat} {q : Option (Nat × Nat)} (h : CT1 B T n e q) : CS T n (tkR B n e) q := ⟨h.1, h.2.2.2.1, (tkR_f h.2.2.2.2.1).2.1, h.2.2.2.2.2.1⟩
theorem ER_cg {T T' : Nat → Int32} {q : Option (Nat × Nat)} (h5 : T' 5 = T 5) (h6 : T' 6 = T 6) (h : ER T q) : ER T' q := by
  cases q with
  | none => exact ⟨h5.trans h.1, h6.trans h.2⟩
  | some x => exact ⟨h.1, h5.trans h.2.1, h6.trans h.2.2⟩
theorem C_ad {B T : Nat → Int32} {n e : Nat} {q : Option (Nat × Nat)} (h : CB S ad B n) (c : CS T n e q) : ∃ T', f_X9_advance (qI S (ad 12) T) (ad 12) = some (qI S (ad 12) T') ∧ CT1 B T' n e q := by
  obtain ⟨T', h1, t1, t5, t6, t3, t4, t2, t7⟩ := C_adv h c.1 c.2.1 c.2.2.1
  refine ⟨T', h1, t1.trans c.1, t2, t3, t4, c.2.2.1, ER_cg t5 t6 c.2.2.2, fun z => ?_⟩
  rw [t7 (Or.inr (tkK_2 c.2.2.1 z).1), (tkN_f c.2.2.1 z).2.1]
theorem C_fail {B T : Nat → Int32} {n e : Nat} {q : Option (Nat × Nat)} (hn : n ≤ 1500) (c : CT1 B T n e q) {k : Nat} (hk : 1 ≤ k ∧ k ≤ 5) {i : Int32} (hi : i = nI k) : ∃ T', f_X9_fail (qI S (ad 12) T) (ad 12) i = some (qI S (ad 12) T') ∧ CT1 B T' n e (qor q (some (k, tkS B n e))) := by
  obtain ⟨h1, h2, h3, h4, he, hE, h7⟩ := c
  have gT : ∀ (T : Nat → Int32) i, gI (qI S (ad 12) T) (ad 12) i = T i := fun T i => by rw [gI_qI, if_pos rfl]
  have s2 := (tkS_f (B := B) he).2.1
  cases q with
  | none =>
    have h5 : T 5 = 0 := hE.1
    refine ⟨udt (udt T 5 i) 6 (nI (tkS B n e)), ?_, ?_⟩
    · have u3 : udt T 5 i 3 = nI (tkS B n e) := by rw [udt_n (by decide), h3]
      simp only [f_X9_fail, f_X9_failed, lt_n, gT, h5, if_true, cl_n, uI_qI, u3]
    · refine ⟨by rw [udt_n (by decide), udt_n (by decide), h1], by rw [udt_n (by decide), udt_n (by decide), h2], by rw [udt_n (by decide), udt_n (by decide), h3], by rw [udt_n (by decide), udt_n (by decide), h4], he, ⟨⟨hk.1, hk.2, by omega⟩, by rw [udt_n (by decide), udt_e, hi], udt_e _ _ _⟩, fun z => by rw [udt_n (by decide), udt_n (by decide), h7 z]⟩
  | some x =>
    obtain ⟨cd, p⟩ := x
    obtain ⟨⟨c1, c2, c3⟩, e5, e6⟩ := hE
    refine ⟨T, ?_, h1, h2, h3, h4, he, ⟨⟨c1, c2, c3⟩, e5, e6⟩, h7⟩
    have n0 : ¬ T 5 = 0 := by rw [e5, show (0 : Int32) = nI 0 from rfl, nI_eq (by omega) (by omega)]; omega
    simp only [f_X9_fail, f_X9_failed, lt_n, gT, n0, if_false, cl_n, i10]
/-- the error of a number that isn't one, or isn't in its range -/
def eNum (B : Nat → Int32) (n e a : Nat) (hi : Int32) : Option (Nat × Nat) := if tkK B n e = 2 then (if a ≤ tkN B n e ∧ nI (tkN B n e) ≤ hi then none else some (2, tkS B n e)) else some (1, tkS B n e)
def vNum (B : Nat → Int32) (n e a : Nat) (hi : Int32) : Nat := if eNum B n e a hi = none then tkN B n e else a
theorem C_num {B T : Nat → Int32} {n e a : Nat} {q : Option (Nat × Nat)} (h : CB S ad B n) (c : CS T n e q) (ha : a ≤ 1000000) (hi : Int32) : ∃ T', f_X9_readNumber (qI S (ad 12) T) (ad 12) (nI a) hi = some (nI (vNum B n e a hi), qI S (ad 12) T') ∧ CT1 B T' n e (qor q (eNum B n e a hi)) := by
  have hn := h.2.1
  have gT : ∀ (T : Nat → Int32) i, gI (qI S (ad 12) T) (ad 12) i = T i := fun T i => by rw [gI_qI, if_pos rfl]
  obtain ⟨T1, a1, c1⟩ := C_ad h c
  have k2 : (nI (tkK B n e) = 2) = (tkK B n e = 2) := propext (nI3 tkK_le (z := 2) (by omega))
  unfold vNum eNum f_X9_readNumber
  rw [a1, cl_n]
  simp only [lt_n, gT, c1.2.1, k2]
  by_cases hk : tkK B n e = 2
  · have hN := (tkN_f c.2.2.1 hk).1
    have lt1 : (nI (tkN B n e) < nI a) = (tkN B n e < a) := propext (nI_ltI (by omega) (by omega))
    simp only [hk, if_true, c1.2.2.2.2.2.2 hk, lt1, jn_n]
    by_cases hr : a ≤ tkN B n e ∧ nI (tkN B n e) ≤ hi
    · refine ⟨T1, ?_, ?_⟩
      · rw [if_neg (by omega), if_pos hr.2, if_pos hr, if_pos rfl]
      · rw [if_pos hr]
        cases q <;> exact c1
    · obtain ⟨T2, a2, c2⟩ := C_fail (S := S) (ad := ad) hn c1 (k := 2) (by omega) (i := 2) rfl
      refine ⟨T2, ?_, ?_⟩
      · have nn : ¬ some (2, tkS B n e) = (none : Option (Nat × Nat)) := fun z => by cases z
        rw [a2, cl_n, if_neg hr, if_neg nn]
        by_cases h1 : tkN B n e < a
        · rw [if_pos h1]
        · rw [if_neg h1, if_neg (fun z => hr ⟨by omega, z⟩)]
      · rw [if_neg hr]; exact c2
  · obtain ⟨T2, a2, c2⟩ := C_fail (S := S) (ad := ad) hn c1 (k := 1) (by omega) (i := 1) rfl
    refine ⟨T2, ?_, ?_⟩
    · have nn : ¬ some (1, tkS B n e) = (none : Option (Nat × Nat)) := fun z => by cases z
      rw [if_neg hk, a2, cl_n, if_neg hk, if_neg nn]
    · rw [if_neg hk]; exact c2
def eEnd (B : Nat → Int32) (n e : Nat) : Option (Nat × Nat) := if tkK B n e = 3 then none else some (1, tkS B n e)
theorem C_end {B T : Nat → Int32} {n e : Nat} {q : Option (Nat × Nat)} (h : CB S ad B n) (c : CS T n e q) : ∃ T', f_X9_endStatement (qI S (ad 12) T) (ad 12) = some (qI S (ad 12) T') ∧ CT1 B T' n e (qor q (eEnd B n e)) := by
  have hn := h.2.1
  have gT : ∀ (T : Nat → Int32) i, gI (qI S (ad 12) T) (ad 12) i = T i := fun T i => by rw [gI_qI, if_pos rfl]
  obtain ⟨T1, a1, c1⟩ := C_ad h c
  have k3 : (nI (tkK B n e) = 3) = (tkK B n e = 3) := propext (nI3 tkK_le (z := 3) (by omega))
  unfold eEnd f_X9_endStatement
  rw [a1, cl_n]
  simp only [lt_n, gT, c1.2.1, k3]
  by_cases hk : tkK B n e = 3
  · refine ⟨T1, by rw [if_pos hk], ?_⟩
    rw [if_pos hk]
    cases q <;> exact c1
  · obtain ⟨T2, a2, c2⟩ := C_fail (S := S) (ad := ad) hn c1 (k := 1) (by omega) (i := 1) rfl
    refine ⟨T2, by rw [if_neg hk, a2, cl_n], ?_⟩
    rw [if_neg hk]; exact c2
