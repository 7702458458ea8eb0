/-! the pure part: find -/
variable {S S0 S1 S2 S' S'' S3 X : St} {ad : Nat → Nat} {b d j k : Nat} {v v0 v' v1 v2 u w : Nat → Int64} {np nf no mo no' mo' x y : Nat}
theorem by_p : ∀ c, c < 128 → nI c &&& 255 = nI c := by decide +kernel
theorem by_n : ∀ c, c < 128 → 128 ≤ ((nI c - 128) &&& 255).toInt ∧ ((nI c - 128) &&& 255).toInt < 256 := by decide +kernel
/-- the bytes of the reference: without sign -/
theorem ub_p {x : Int32} (h1 : 0 ≤ x.toInt) (h2 : x.toInt < 128) : x &&& 255 = x := by
  have e : x = nI x.toInt.toNat := Int32.toInt_inj.mp (by rw [nI_toInt (by omega)]; omega)
  rw [e]; exact by_p _ (by omega)
theorem ub_n {x : Int32} (h1 : -128 ≤ x.toInt) (h2 : x.toInt < 0) : 128 ≤ (x &&& 255).toInt ∧ (x &&& 255).toInt < 256 := by
  have e : x = nI (x.toInt + 128).toNat - 128 := Int32.toInt_inj.mp (by
    rw [Int32.toInt_sub, nI_toInt (by omega), show (128 : Int32).toInt = 128 from rfl, Int.bmod_eq_of_le (by omega) (by omega)]; omega)
  rw [e]; exact by_n _ (by omega)
theorem lp_s {κ : Type} (bot : κ) (bd : κ → κ) (n : Nat) : lp bot bd (n + 1) = bd (lp bot bd n) := rfl
/-- a loop with an early end, all ends alike -/
theorem lp_ind {κ σ β : Type} (ap : κ → Nat → σ → Option β) (bot : κ) (bd : κ → κ) (N : Nat) (J : Nat → σ → Prop) (R : Option β) (h0 : ∀ k s, J N s → ap (bd k) N s = R) (h1 : ∀ k m s, m < N → J m s → ap (bd k) m s = R ∨ ∃ s', J (m + 1) s' ∧ ap (bd k) m s = ap k (m + 1) s') : ∀ (n fuel m : Nat) (s : σ), m + n = N → n < fuel → J m s → ap (lp bot bd fuel) m s = R := by
  intro n
  induction n with
  | zero =>
    intro fuel m s hm hf hJ
    obtain ⟨F, rfl⟩ : ∃ F', fuel = F' + 1 := ⟨fuel - 1, by omega⟩
    have : m = N := by omega
    subst this
    rw [lp_s]; exact h0 _ _ hJ
  | succ n ih =>
    intro fuel m s hm hf hJ
    obtain ⟨F, rfl⟩ : ∃ F', fuel = F' + 1 := ⟨fuel - 1, by omega⟩
    rw [lp_s]
    rcases h1 (lp bot bd F) m s (by omega) hJ with h | ⟨s', hs, h⟩
    · exact h
    · rw [h]; exact ih F (m + 1) s' (by omega) (by omega) hs
def BY (x : Int32) : Prop := -128 ≤ x.toInt ∧ x.toInt < 128
theorem M_letter (S : St) {x : Int32} (h : BY x) : f_X12_isLetter S (x &&& 255) = some (bI (isLt x)) := by
  have e : (decide ((97 : Int64) ≤ (x &&& 255).toInt64) && decide ((x &&& 255).toInt64 ≤ (122 : Int64))) = isLt x := by
    unfold isLt
    simp only [Int64.le_iff_toInt_le, Int32.toInt_toInt64, show (97 : Int64).toInt = 97 from rfl, show (122 : Int64).toInt = 122 from rfl]
    by_cases h0 : 0 ≤ x.toInt
    · rw [ub_p h0 h.2]
    · obtain ⟨a1, a2⟩ := ub_n h.1 (by omega)
      rw [decide_eq_false (show ¬ (x &&& 255).toInt ≤ 122 by omega), decide_eq_false (show ¬ 97 ≤ x.toInt by omega)]
      simp
  simp only [f_X12_isLetter, M_inRange, e, cl_s, zc_b]
theorem isLt_ub {x : Int32} (h : isLt x = true) : x &&& 255 = x := by
  obtain ⟨h1, h2, h3⟩ := isLt_of h
  have : x.toInt = ((96 + ltD x : Nat) : Int) := by
    have := congrArg Int32.toInt h3
    rw [nI_toInt (by omega)] at this; exact this
  exact ub_p (by omega) (by omega)
theorem M_byte (t : TR S ad) {n i : Nat} (hn : n ≤ 1500) (h9 : gI S (ad 1) 9 = nI n) (hi : i < n) : f_X12_byteAt S (ad 1) (nI i) = some (gI S (ad 9) i &&& 255) := by
  have h1 : ¬ nI n ≤ nI i := by rw [nI_leI (by omega) (by omega)]; omega
  simp only [f_X12_byteAt, lt_e, h9, if_neg h1, r_1_8 t]
  rw [ldI_at (by rw [n_9 t]; omega) (by rw [n_9 t]; decide)]
theorem pkd_cg {g h : Nat → Int32} : ∀ n, (∀ i, i < n → g i = h i) → pkd g n = pkd h n := by
  intro n
  induction n with
  | zero => intro _; rfl
  | succ n ih =>
    intro e
    rw [pkd, pkd, ih (fun i hi => e i (by omega)), e n (by omega)]
def allL (g : Nat → Int32) : Nat → Bool
  | 0 => true
  | n + 1 => allL g n && isLt (g n)
theorem allL_iff {g : Nat → Int32} : ∀ n, allL g n = true ↔ ∀ i, i < n → isLt (g i) = true := by
  intro n
  induction n with
  | zero => simp [allL]
  | succ n ih =>
    rw [allL, Bool.and_eq_true, ih]
    constructor
    · rintro ⟨h1, h2⟩ i hi
      by_cases e : i = n
      · subst e; exact h2
      · exact h1 i (by omega)
    · intro h
      exact ⟨fun i hi => h i (by omega), h n (by omega)⟩
theorem M_find (m : Mv S ad v np nf no mo) {n : Nat} (hn : n ≤ 1500) (h9 : gI S (ad 1) 9 = nI n) (hB : ∀ i, i < n → BY (gI S (ad 9) i)) : f_X12_find S (ad 1) = some (if (decide (1 ≤ n ∧ n ≤ 10 ∧ ∀ i, i < n → isLt (gI S (ad 9) i) = true)) then nmV v (pkd (gI S (ad 9)) n) nf 0 else -1, uI (uI S (ad 1) 2 0) (ad 1) 9 0) := by
  have t := m.1
  have t1 : TR (uI S (ad 1) 2 0) ad := TR_SR0 (SR0_uI _ _ _ _) t
  have h91 : gI (uI S (ad 1) 2 0) (ad 1) 9 = nI n := by rw [gI_uI, if_neg (fun e => absurd e.2 (by decide))]; exact h9
  have g9 : ∀ i, gI (uI S (ad 1) 2 0) (ad 9) i = gI S (ad 9) i := fun i => by rw [gI_uI, if_neg (fun e => absurd ((t.1 _ _).mp e.1) (by decide))]
  have er : (decide ((1 : Int64) ≤ (nI n).toInt64) && decide ((nI n).toInt64 ≤ (10 : Int64))) = (decide (1 ≤ n) && decide (n ≤ 10)) := by
    rw [nI_l (by omega), show (1 : Int64) = lN 1 from rfl, show (10 : Int64) = lN 10 from rfl]
    simp only [lN_le (show 1 < 2 ^ 31 by decide) (show n < 2 ^ 31 by omega), lN_le (show n < 2 ^ 31 by omega) (show 10 < 2 ^ 31 by decide)]
  have fin : ∀ (z : Int64) (q : Bool), (lt (uI (uI S (ad 1) 2 0) (ad 1) 9 0) fun (S8 : St) => if bI q = 0 then (some (((-1) : Int32), S8)) else (cl (f_X12_named S8 (ad 1) 0 z) fun (v9 : Int32) => some (v9, S8))) = some (if q then nmV v z nf 0 else -1, uI (uI S (ad 1) 2 0) (ad 1) 9 0) := fun z q => by
    rw [lt_n, if_bI]
    cases q
    · rfl
    · show (cl (f_X12_named _ (ad 1) 0 z) _) = _
      rw [M_named (i1 := 0) (p := 0) (v := v) (nf := nf) (TR_SR0 (SR0_uI _ _ _ _) t1) m.2.1 (by decide) rfl (by rw [Nat.mul_zero, Nat.zero_add]; exact m.2.2.2.1) m.2.2.2.2.2.2.2.1]
      rw [show (fun i => v (5054 * 0 + i)) = v from funext fun i => by rw [Nat.mul_zero, Nat.zero_add]]
      rfl
  unfold f_X12_find
  rw [lt_n, lt_n, h91, M_inRange, er, cl_n]
  refine (jn_n _ _).trans ?_
  by_cases h : 1 ≤ n ∧ n ≤ 10
  · have e1 : (decide (1 ≤ n) && decide (n ≤ 10)) = true := by simp [h]
    rw [e1]
    refine (lp_ind (fun (k : Int64 → Int32 → Int32 → Option (Int32 × St)) m (s : Int64 × Bool) => k s.1 (bI s.2) (nI m)) _ _ n (fun m s => s.2 = allL (gI S (ad 9)) m ∧ (s.2 = true → s.1 = pkd (gI S (ad 9)) m)) (some (if allL (gI S (ad 9)) n then nmV v (pkd (gI S (ad 9)) n) nf 0 else -1, uI (uI S (ad 1) 2 0) (ad 1) 9 0)) ?_ ?_ n FU 0 (0, true) (by omega) (show n < 6000 by omega) ⟨rfl, fun _ => rfl⟩).trans ?_
    · rintro k ⟨z, q⟩ ⟨hq, hz⟩
      show (lt (nI n) _) = _
      rw [lt_n, if_pos (by rw [nI_leI (by omega) (by omega)]; omega)]
      refine (fin z q).trans ?_
      rw [← hq]
      cases q
      · rfl
      · rw [show z = _ from hz rfl]
    · rintro k m ⟨z, q⟩ hm ⟨hq, hz⟩
      have h1 : ¬ nI n ≤ nI m := by rw [nI_leI (by omega) (by omega)]; omega
      cases q
      · left
        show (lt (nI n) _) = _
        rw [lt_n, if_neg h1]
        refine (fin z false).trans ?_
        have : allL (gI S (ad 9)) n = false := by
          by_cases e : allL (gI S (ad 9)) n = true
          · exact absurd ((allL_iff m).mpr fun i hi => (allL_iff n).mp e i (by omega)) (by rw [← hq]; exact Bool.false_ne_true)
          · exact Bool.eq_false_iff.mpr e
        rw [this]; rfl
      · right
        refine ⟨(z * 32 + (gI S (ad 9) m &&& 255).toInt64 - 96, isLt (gI S (ad 9) m)), ⟨?_, ?_⟩, ?_⟩
        · show isLt (gI S (ad 9) m) = _
          rw [allL, ← hq]; rfl
        · intro hl
          show z * 32 + (gI S (ad 9) m &&& 255).toInt64 - 96 = _
          rw [isLt_ub hl, show z = _ from hz rfl, pkd]
        · show (lt (nI n) _) = _
          rw [lt_n, if_neg h1]
          show (if bI true = 0 then _ else _) = _
          rw [if_neg (by decide), M_byte t1 hn h91 (show m < n by omega), g9, cl_n, M_letter _ (hB m (by omega)), cl_n, cl_n, lt_n, nI_1]
    have ee : allL (gI S (ad 9)) n = decide (1 ≤ n ∧ n ≤ 10 ∧ ∀ i, i < n → isLt (gI S (ad 9) i) = true) := by
      rw [Bool.eq_iff_iff, allL_iff, decide_eq_true_iff]
      exact ⟨fun hh => ⟨h.1, h.2, hh⟩, fun hh => hh.2.2⟩
    rw [ee]
  · have e1 : (decide (1 ≤ n) && decide (n ≤ 10)) = false := by
      rw [← Bool.decide_and]; exact decide_eq_false h
    have e2 : decide (1 ≤ n ∧ n ≤ 10 ∧ ∀ i, i < n → isLt (gI S (ad 9) i) = true) = false := decide_eq_false fun e => h ⟨e.1, e.2.1⟩
    rw [e1, e2]
    refine (congrFun (congrFun (congrFun (lp_s _ _ 5999) _) _) _).trans ?_
    show (lt (nI n) _) = _
    rw [lt_n]
    by_cases h0 : nI n ≤ (0 : Int32)
    · rw [if_pos h0]; exact fin 0 false
    · rw [if_neg h0]; exact fin 0 false
theorem W_5 : StpW ad f_law_5 := by
  intro Ls xs S c i ⟨b, d, j, k, v, np, nf, no, mo, r⟩ hi hL hc
  have cv := r.1
  have t := cv.t
  have jb := r.jb
  unfold JBB at jb
  obtain ⟨n, hn, i1, i2, i3⟩ := r.ip
  have hx : f_X11_find S (ad 0) = some (if (decide (1 ≤ n ∧ n ≤ 10 ∧ ∀ i, i < n → isLt (gI S (ad 13) (0 + i)) = true)) then nmV v (pkd (fun i => gI S (ad 13) (0 + i)) n) nf 0 else -1, uI S (ad 12) 1 0) := by
    simp only [f_X11_find, lt_n, cv.r, r_b0_3 t cv.hb, r_0_0 t, r_12_0 t, i1]
    rw [show (0 : Int32) = nI 0 from rfl, C_named t cv.hb cv.m.2.2.2.2.2.2.2.1 cv.N (show 0 + n ≤ 1500 by omega), cl_n]
  have m1 : Mv (uI S (ad 12) 1 0) ad v np nf no mo := Mv_t r.m (ad 12) 1 0
  have e9 : ∀ l, gI (uI S (ad 12) 1 0) (ad 9) l = gI S (ad 9) l := fun l => by rw [gI_uI, if_neg (fun e => absurd ((t.1 _ _).mp e.1) (by decide))]
  have hy := M_find m1 hn (show gI (uI S (ad 12) 1 0) (ad 1) 9 = nI n by rw [gI_uI, if_neg (fun e => absurd ((t.1 _ _).mp e.1) (by decide))]; exact i2) (fun l hl => by rw [e9, ← (i3 l hl).1]; exact (i3 l hl).2)
  have e1 : decide (1 ≤ n ∧ n ≤ 10 ∧ ∀ i, i < n → isLt (gI (uI S (ad 12) 1 0) (ad 9) i) = true) = decide (1 ≤ n ∧ n ≤ 10 ∧ ∀ i, i < n → isLt (gI S (ad 13) (0 + i)) = true) := by
    refine decide_eq_decide.mpr ⟨fun h => ⟨h.1, h.2.1, fun i hi => ?_⟩, fun h => ⟨h.1, h.2.1, fun i hi => ?_⟩⟩
    · rw [Nat.zero_add, (i3 i hi).1, ← e9]; exact h.2.2 i hi
    · have := h.2.2 i hi
      rw [Nat.zero_add, (i3 i hi).1, ← e9] at this; exact this
  have e2 : pkd (gI (uI S (ad 12) 1 0) (ad 9)) n = pkd (fun i => gI S (ad 13) (0 + i)) n := pkd_cg n fun i hi => by
    show _ = gI S (ad 13) (0 + i)
    rw [e9, Nat.zero_add, (i3 i hi).1]
  rw [e1, e2] at hy
  refine ⟨uI (uI (uI S (ad 12) 1 0) (ad 1) 2 0) (ad 1) 9 0, c, ⟨b, d, j, k, v, np, nf, no, mo, RE_io r ⟨fun _ _ => rfl, fun _ => rfl⟩ (fun p hp hnp => ?_) ?_ ?_ ?_ ?_ ?_⟩, by omega, fun kont => ?_⟩
  · intro l
    have h1 : p ≠ 1 := by rintro rfl; exact RC_not r.jb (Or.inl rfl) hp
    have h12 : p ≠ 12 := by rintro rfl; exact RC_not r.jb (by omega) hp
    simp only [gI_i t.1, gJ_uI, h1, h12, false_and, if_false, and_self]
  · simp only [gI_i t.1]; simp
  · simp only [gI_i t.1]; simp
  · refine ⟨0, by omega, by simp only [gI_i t.1]; simp; rfl, by simp only [gI_i t.1]; simp; rfl, fun l hl => absurd hl (by omega)⟩
  · have := r.er
    simp only [ERR, gI_i t.1] at this ⊢
    simpa using this
  · have := r.fm
    simp only [FMT, gI_i t.1] at this ⊢
    simpa using this
  · simp only [f_law_5, hx, hy, cl_s, if_true]
