/-! the pure part: names -/
variable {S S0 S1 S2 S' S'' S3 X : St} {ad : Nat → Nat} {b d j k : Nat} {v v0 v' v1 v2 u w : Nat → Int64} {np nf no mo no' mo' x y : Nat}
def isLt (x : Int32) : Bool := decide (97 ≤ x.toInt) && decide (x.toInt ≤ 122)
def ltD (x : Int32) : Nat := (x.toInt - 96).toNat
def pkN (d : Nat → Nat) : Nat → Nat
  | 0 => 0
  | n + 1 => pkN d n * 32 + d n
theorem isLt_of {x : Int32} (h : isLt x = true) : 1 ≤ ltD x ∧ ltD x ≤ 26 ∧ x = nI (96 + ltD x) := by
  simp only [isLt, Bool.and_eq_true, decide_eq_true_eq] at h
  unfold ltD
  refine ⟨by omega, by omega, Int32.toInt_inj.mp ?_⟩
  rw [nI_toInt (by omega)]; omega
theorem isLt_nI {l : Nat} (h1 : 1 ≤ l) (h2 : l ≤ 26) : isLt (nI (96 + l)) = true ∧ ltD (nI (96 + l)) = l := by
  unfold isLt ltD
  rw [nI_toInt (by omega)]
  simp only [Bool.and_eq_true, decide_eq_true_eq]
  omega
theorem pkN_lt {d : Nat → Nat} : ∀ n, (∀ i, i < n → d i < 32) → pkN d n < 32 ^ n := by
  intro n
  induction n with
  | zero => intro _; show 0 < 1; decide
  | succ n ih =>
    intro h
    have h1 := ih (fun i hi => h i (by omega))
    have h2 := h n (by omega)
    rw [pkN, Nat.pow_succ]
    omega
theorem pkN_inj {d e : Nat → Nat} : ∀ n m, (∀ i, i < n → 1 ≤ d i ∧ d i < 32) → (∀ i, i < m → 1 ≤ e i ∧ e i < 32) → pkN d n = pkN e m → n = m ∧ ∀ i, i < n → d i = e i := by
  intro n
  induction n with
  | zero =>
    intro m _ he h
    cases m with
    | zero => exact ⟨rfl, fun i hi => absurd hi (by omega)⟩
    | succ m =>
      have := he m (by omega)
      rw [pkN, pkN] at h
      omega
  | succ n ih =>
    intro m hd he h
    cases m with
    | zero =>
      have := hd n (by omega)
      rw [pkN, pkN] at h
      omega
    | succ m =>
      have h1 := hd n (by omega)
      have h2 := he m (by omega)
      rw [pkN, pkN] at h
      have h3 : d n = e m := by omega
      have h4 : pkN d n = pkN e m := by omega
      obtain ⟨e1, e2⟩ := ih m (fun i hi => hd i (by omega)) (fun i hi => he i (by omega)) h4
      subst e1
      refine ⟨rfl, fun i hi => ?_⟩
      by_cases hin : i = n
      · subst hin; exact h3
      · exact e2 i (by omega)
theorem pkd_N {g : Nat → Int32} : ∀ n, (∀ i, i < n → isLt (g i) = true) → pkd g n = lN (pkN (fun i => ltD (g i)) n) := by
  intro n
  induction n with
  | zero => intro _; rfl
  | succ n ih =>
    intro h
    obtain ⟨h1, h2, h3⟩ := isLt_of (h n (by omega))
    have e := ih (fun i hi => h i (by omega))
    rw [pkd, e, pkN]
    generalize pkN (fun i => ltD (g i)) n = P
    have e2 : (g n).toInt64 = lN (96 + ltD (g n)) := by
      have := congrArg Int32.toInt64 h3
      rw [nI_l (by omega)] at this
      exact this
    rw [e2, show (32 : Int64) = lN 32 from rfl, lN_mul, lN_add, show (96 : Int64) = lN 96 from rfl, lN_sub (by omega)]
    congr 1
    omega
def WD (g : Nat → Int32) (n : Nat) : Prop := 1 ≤ n ∧ n ≤ 10 ∧ ∀ i, i < n → isLt (g i) = true
theorem pkN_cg {d e : Nat → Nat} : ∀ n, (∀ i, i < n → d i = e i) → pkN d n = pkN e n := by
  intro n
  induction n with
  | zero => intro _; rfl
  | succ n ih =>
    intro h
    rw [pkN, pkN, ih (fun i hi => h i (by omega)), h n (by omega)]
theorem pk_63 {x n : Nat} (h : n ≤ 10) (hx : x < 32 ^ n) : x < 2 ^ 63 := Nat.lt_of_lt_of_le hx (Nat.le_trans (Nat.pow_le_pow_right (by decide) h) (show 32 ^ 10 ≤ 2 ^ 63 by decide))
theorem pkd_inj {g h : Nat → Int32} {n m : Nat} (hg : WD g n) (hh : WD h m) : pkd g n = pkd h m ↔ n = m ∧ ∀ i, i < n → g i = h i := by
  have b1 : pkN (fun i => ltD (g i)) n < 2 ^ 63 := by
    have := pkN_lt n (d := fun i => ltD (g i)) (fun i hi => by have := isLt_of (hg.2.2 i hi); show ltD (g i) < 32; omega)
    exact pk_63 hg.2.1 this
  have b2 : pkN (fun i => ltD (h i)) m < 2 ^ 63 := by
    have := pkN_lt m (d := fun i => ltD (h i)) (fun i hi => by have := isLt_of (hh.2.2 i hi); show ltD (h i) < 32; omega)
    exact pk_63 hh.2.1 this
  rw [pkd_N n hg.2.2, pkd_N m hh.2.2, pk_lEQ b1 b2]
  constructor
  · intro e
    obtain ⟨e1, e2⟩ := pkN_inj n m (fun i hi => by have := isLt_of (hg.2.2 i hi); show 1 ≤ ltD (g i) ∧ ltD (g i) < 32; omega) (fun i hi => by have := isLt_of (hh.2.2 i hi); show 1 ≤ ltD (h i) ∧ ltD (h i) < 32; omega) e
    refine ⟨e1, fun i hi => ?_⟩
    have q := e2 i hi
    have a1 := (isLt_of (hg.2.2 i hi)).2.2
    have a2 := (isLt_of (hh.2.2 i (by omega))).2.2
    have q' : ltD (g i) = ltD (h i) := q
    rw [a1, a2, q']
  · rintro ⟨rfl, e⟩
    exact pkN_cg n fun i hi => congrArg ltD (e i hi)
def nmV (u : Nat → Int64) (val : Int64) : Nat → Nat → Int32
  | 0, _ => -1
  | n + 1, m => if u (58 + 16 * m + 0) = val then nI m else nmV u val n (m + 1)
/-- a name of a business is a word -/
theorem AXN_wd (a : AXN S ad b u nf) {f : Nat} (hf : f < nf) : ∃ n, gI S (ad (b + 20)) f = nI n ∧ WD (fun i => gI S (ad (b + 19)) (10 * f + i)) n ∧ u (58 + 16 * f + 0) = pkd (fun i => gI S (ad (b + 19)) (10 * f + i)) n := by
  obtain ⟨n, h1, h2, h3, h4, h5⟩ := a.2 f hf
  refine ⟨n, h3, ⟨h1, h2, fun i hi => ?_⟩, h5⟩
  obtain ⟨l, l1, l2, e⟩ := h4 i hi
  show isLt (gI S (ad (b + 19)) (10 * f + i)) = true
  rw [e]; exact (isLt_nI l1 l2).1
theorem C_hasL (t : TR S ad) (hb : BB b) {f n s : Nat} (hf : f < 8) (hn : n ≤ 10) (e : gI S (ad (b + 20)) f = nI n) (hs : s + n ≤ 1500) : f_X2_hasLetters S (ad (b + 4)) (nI f) (ad 13) (nI s) = some (bI (decide (∀ i, i < n → gI S (ad (b + 19)) (10 * f + i) = gI S (ad 13) (s + i)))) := by
  unfold f_X2_hasLetters
  rw [lt_n, r_b4_1 t hb, lb20 t hb hf, e, if_neg (nI_pos (by omega)), lt_n, n_13 t, nI_sub (by omega), if_pos (by rw [nI_leI (by omega) (by omega)]; omega)]
  refine (lp_rec (fun (k : Int32 → Option Int32) i (_ : Unit) => k (nI i)) _ _ n (fun r m _ => some (bI (decide (∀ i, i < n → m ≤ i → gI S (ad (b + 19)) (10 * f + i) = gI S (ad 13) (s + i))))) ?_ ?_ n FU 0 () (by omega) (show n < 6000 by omega)).trans ?_
  · intro k _
    have h1 : nI n ≤ nI n := by rw [nI_leI (by omega) (by omega)]; omega
    rw [if_pos h1, decide_eq_true (fun i h1 h2 => absurd h2 (by omega))]; rfl
  · intro k m r _ hm hk
    have h1 : ¬ nI n ≤ nI m := by rw [nI_leI (by omega) (by omega)]; omega
    have hk := hk ()
    rw [if_neg h1, lt_n, r_b4_0 t hb, um10, nI_add, lb19 t hb (by omega), nI_add, ldI_at (by rw [n_13 t]; omega) (by rw [n_13 t]; decide), nI_1, Nat.mul_comm f 10]
    by_cases hx : gI S (ad (b + 19)) (10 * f + m) = gI S (ad 13) (s + m)
    · rw [if_pos hx]
      refine hk.trans ?_
      congr 2
      refine decide_eq_decide.mpr ⟨fun h i h1 h2 => ?_, fun h i h1 h2 => h i h1 (by omega)⟩
      by_cases e : i = m
      · subst e; exact hx
      · exact h i h1 (by omega)
    · rw [if_neg hx, decide_eq_false (fun h => hx (h m (by omega) (Nat.le_refl _)))]; rfl
  · congr 2
    exact decide_eq_decide.mpr ⟨fun h i hi => h i hi (by omega), fun h i hi _ => h i hi⟩
theorem C_named (t : TR S ad) (hb : BB b) (h8 : nf ≤ 8) (a : AXN S ad b u nf) {s n : Nat} (hs : s + n ≤ 1500) : f_X2_named S (ad (b + 4)) (ad 13) (nI s) (nI n) = some (if (decide (1 ≤ n ∧ n ≤ 10 ∧ ∀ i, i < n → isLt (gI S (ad 13) (s + i)) = true)) then nmV u (pkd (fun i => gI S (ad 13) (s + i)) n) nf 0 else -1) := by
  unfold f_X2_named
  refine (jn_n _ _).trans ?_
  refine (lp_rec (fun (k : Int32 → Option Int32) i (_ : Unit) => k (nI i)) _ _ nf (fun r m _ => some (if (decide (1 ≤ n ∧ n ≤ 10 ∧ ∀ i, i < n → isLt (gI S (ad 13) (s + i)) = true)) then nmV u (pkd (fun i => gI S (ad 13) (s + i)) n) r m else -1)) ?_ ?_ nf FU 0 () (by omega) (show nf < 6000 by omega))
  · intro k _
    have h1 : nI nf ≤ nI nf := by rw [nI_leI (by omega) (by omega)]; omega
    rw [lt_n, a.1, if_pos h1]
    by_cases hw : 1 ≤ n ∧ n ≤ 10 ∧ ∀ i, i < n → isLt (gI S (ad 13) (s + i)) = true
    · rw [decide_eq_true hw]; rfl
    · rw [decide_eq_false hw]; rfl
  · intro k m r _ hm hk
    have h1 : ¬ nI nf ≤ nI m := by rw [nI_leI (by omega) (by omega)]; omega
    have hk := hk ()
    obtain ⟨l, e1, e2, e3⟩ := AXN_wd a (show m < nf by omega)
    rw [lt_n, a.1, if_neg h1, lt_n, r_b4_1 t hb, lb20 t hb (by omega), e1, nI_1]
    refine (jn_n _ _).trans ?_
    have hln : (nI l = nI n) = (l = n) := by rw [nI_eq (by have := e2.2.1; omega) (by omega)]
    simp only [hln]
    by_cases hl : l = n
    · subst hl
      rw [if_pos rfl, C_hasL t hb (show m < 8 by omega) e2.2.1 e1 hs, cl_n]
      simp only [if_bI]
      by_cases hq : ∀ i, i < l → gI S (ad (b + 19)) (10 * m + i) = gI S (ad 13) (s + i)
      · have hw : 1 ≤ l ∧ l ≤ 10 ∧ ∀ i, i < l → isLt (gI S (ad 13) (s + i)) = true := ⟨e2.1, e2.2.1, fun i hi => by rw [← hq i hi]; exact e2.2.2 i hi⟩
        rw [decide_eq_true hq, decide_eq_true hw, if_pos rfl, if_pos rfl, nmV, if_pos]
        rw [e3]
        exact (pkd_inj e2 hw).mpr ⟨rfl, hq⟩
      · rw [decide_eq_false hq, if_neg (by decide)]
        refine hk.trans ?_
        by_cases hw : 1 ≤ l ∧ l ≤ 10 ∧ ∀ i, i < l → isLt (gI S (ad 13) (s + i)) = true
        · rw [decide_eq_true hw, if_pos rfl, if_pos rfl, nmV, if_neg]
          rw [e3]
          exact fun e => hq ((pkd_inj e2 hw).mp e).2
        · rw [decide_eq_false hw]; rfl
    · rw [if_neg hl]
      refine hk.trans ?_
      by_cases hw : 1 ≤ n ∧ n ≤ 10 ∧ ∀ i, i < n → isLt (gI S (ad 13) (s + i)) = true
      · rw [decide_eq_true hw, if_pos rfl, if_pos rfl, nmV, if_neg]
        rw [e3]
        exact fun e => hl ((pkd_inj e2 hw).mp e).1
      · rw [decide_eq_false hw]; rfl
theorem M_named (t : TR S ad) (e : gJ S (ad 3) = v) {p : Nat} {i1 : Int32} (hp : p < 4) (h1 : i1 = nI p) (h2 : v (5054 * p + 2) = lN nf) (h8 : nf ≤ 8) (val : Int64) : f_X12_named S (ad 1) i1 val = some (nmV (fun i => v (5054 * p + i)) val nf 0) := by
  subst h1
  have LD : ∀ {β : Type} (k : Nat) (c : Int64 → Option β), k < 20216 → ldJ S (ad 3) (nI k) c = c (v k) := fun k c hk => by rw [ldJ_at (by rw [n_3 t]; exact hk) (by rw [n_3 t]; decide), e]
  unfold f_X12_named
  refine (jn_n _ _).trans ?_
  refine lp_rec (fun (k : Int32 → Option Int32) i (_ : Unit) => k (nI i)) _ _ nf (fun r m _ => some (nmV (fun i => v (5054 * p + i)) val r m)) ?_ ?_ nf FU 0 () (by omega) (show nf < 6000 by omega)
  · intro k _
    rw [lt_n, r_1_0 t, mu5054, show (2 : Int32) = nI 2 from rfl, nI_add, LD _ _ (by omega), h2, nI_l (by omega), if_pos (by rw [lN_le (by omega) (by omega)]; omega)]
    rfl
  · intro k m r _ hm hk
    have hk := hk ()
    rw [lt_n, r_1_0 t, mu5054, show (2 : Int32) = nI 2 from rfl, nI_add, LD _ _ (by omega), h2, nI_l (by omega), if_neg (by rw [lN_le (by omega) (by omega)]; omega), lt_n, show (58 : Int32) = nI 58 from rfl, nI_add, mu16, nI_add, show nI (5054 * p + 58 + 16 * m) + 0 = nI (5054 * p + 58 + 16 * m) from Int32.add_zero _, LD _ _ (by omega), nI_1, nmV]
    have ei : v (5054 * p + 58 + 16 * m) = (fun i => v (5054 * p + i)) (58 + 16 * m + 0) := by
      show _ = v (5054 * p + (58 + 16 * m + 0)); congr 1; omega
    rw [ei]
    by_cases hx : (fun i => v (5054 * p + i)) (58 + 16 * m + 0) = val
    · rw [if_pos hx, if_pos hx]
    · rw [if_neg hx, if_neg hx]; exact hk
