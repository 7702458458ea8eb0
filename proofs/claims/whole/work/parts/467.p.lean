/-! the pure part: tokens of a text, the ledger's side -/
variable {S S0 S1 S2 S' S'' S3 X Y : St} {ad : Nat → Nat} {b d j k : Nat} {v v0 v' v1 v2 u w : Nat → Int64} {np nf no mo no' mo' x y : Nat}
def isDg (x : Int32) : Bool := decide (48 ≤ x.toInt) && decide (x.toInt ≤ 57)
/-- the kind of a byte: 1 letter, 2 digit, 3 semicolon, 4 blank, 5 another -/
def ck (x : Int32) : Nat := if isLt x then 1 else if isDg x then 2 else if x = 32 ∨ x = 10 then 4 else if x = 59 then 3 else 5
def kc (B : Nat → Int32) (n i : Nat) : Nat := if i < n then ck (B i) else 0
theorem ck_le (x : Int32) : 1 ≤ ck x ∧ ck x ≤ 5 := by
  unfold ck
  by_cases h1 : isLt x = true
  · simp [h1]
  · by_cases h2 : isDg x = true
    · simp [h1, h2]
    · by_cases h3 : x = 32 ∨ x = 10
      · simp only [h1, h2, h3, if_true, if_false]; decide
      · by_cases h4 : x = 59
        · simp only [h1, h2, h3, if_true, if_false]; simp [h4]
        · simp only [h1, h2, h3, h4, if_false]; decide
theorem kc_le (B : Nat → Int32) (n i : Nat) : kc B n i ≤ 5 := by
  unfold kc
  by_cases h : i < n
  · rw [if_pos h]; exact (ck_le _).2
  · rw [if_neg h]; decide
theorem kc_end {B : Nat → Int32} {n i : Nat} (h : n ≤ i) : kc B n i = 0 := if_neg (by omega)
theorem kc_0 {B : Nat → Int32} {n i : Nat} (h : kc B n i = 0) : n ≤ i := by
  refine Classical.byContradiction fun hn => ?_
  have h1 : i < n := by omega
  have := ck_le (B i)
  rw [kc, if_pos h1] at h
  omega
theorem kc_in {B : Nat → Int32} {n i : Nat} (h : kc B n i ≠ 0) : i < n := Classical.byContradiction fun hn => h (kc_end (by omega))
theorem ck_1 {x : Int32} : ck x = 1 ↔ isLt x = true := by
  unfold ck
  by_cases h1 : isLt x = true
  · simp [h1]
  · by_cases h2 : isDg x = true
    · simp [h1, h2]
    · by_cases h3 : x = 32 ∨ x = 10
      · simp only [h1, h2, h3, if_true, if_false]; decide
      · by_cases h4 : x = 59
        · simp only [h1, h2, h3, if_true, if_false]; simp [h4]
        · simp only [h1, h2, h3, h4, if_false]; decide
theorem lt_dg {x : Int32} (h : isDg x = true) : ¬ isLt x = true := by
  rw [isDg, Bool.and_eq_true, decide_eq_true_eq, decide_eq_true_eq] at h
  rw [isLt, Bool.and_eq_true, decide_eq_true_eq, decide_eq_true_eq]
  omega
theorem ck_2 {x : Int32} : ck x = 2 ↔ isDg x = true := by
  unfold ck
  by_cases h2 : isDg x = true
  · have h1 := lt_dg h2
    simp [h1, h2]
  · by_cases h1 : isLt x = true
    · simp [h1, h2]
    · by_cases h3 : x = 32 ∨ x = 10
      · simp only [h1, h2, h3, if_true, if_false]; decide
      · by_cases h4 : x = 59
        · simp only [h1, h2, h3, if_true, if_false]; simp [h4]
        · simp only [h1, h2, h3, h4, if_false]; decide
/-- how far a kind goes on -/
def adF (B : Nat → Int32) (n kd : Nat) : Nat → Nat → Nat
  | 0, e => e
  | m + 1, e => if kc B n e = kd then adF B n kd m (e + 1) else e
def run (B : Nat → Int32) (n kd e : Nat) : Nat := adF B n kd (n - e) e
theorem run_n (B : Nat → Int32) (n kd : Nat) {e : Nat} (h : n ≤ e) : run B n kd e = e := by
  unfold run
  rw [show n - e = 0 by omega]; rfl
theorem run_s {B : Nat → Int32} {n kd e : Nat} (h : e < n) (hk : kc B n e = kd) : run B n kd e = run B n kd (e + 1) := by
  unfold run
  rw [show n - e = (n - (e + 1)) + 1 by omega, adF, if_pos hk]
theorem run_x {B : Nat → Int32} {n kd e : Nat} (hk : ¬ kc B n e = kd) : run B n kd e = e := by
  unfold run
  by_cases h : e < n
  · rw [show n - e = (n - (e + 1)) + 1 by omega, adF, if_neg hk]
  · rw [show n - e = 0 by omega]; rfl
theorem run_f {B : Nat → Int32} {n kd : Nat} (h0 : kd ≠ 0) : ∀ m e, e + m = n → e ≤ run B n kd e ∧ run B n kd e ≤ n ∧ (∀ i, e ≤ i → i < run B n kd e → kc B n i = kd) ∧ kc B n (run B n kd e) ≠ kd := by
  intro m
  induction m with
  | zero =>
    intro e he
    rw [run_n B n kd (by omega)]
    exact ⟨Nat.le_refl _, by omega, fun i h1 h2 => by omega, by rw [kc_end (by omega)]; exact h0.symm⟩
  | succ m ih =>
    intro e he
    by_cases hk : kc B n e = kd
    · obtain ⟨a1, a2, a3, a4⟩ := ih (e + 1) (by omega)
      rw [run_s (by omega) hk]
      refine ⟨by omega, a2, fun i h1 h2 => ?_, a4⟩
      by_cases hi : i = e
      · rw [hi]; exact hk
      · exact a3 i (by omega) h2
    · rw [run_x hk]
      exact ⟨Nat.le_refl _, by omega, fun i h1 h2 => by omega, hk⟩
/-- a loop that goes on while the kind does -/
theorem lp_run {β : Type} (B : Nat → Int32) (n kd : Nat) (h0 : kd ≠ 0) (st : Nat → St) (bot : St → Option β) (bd : (St → Option β) → St → Option β) (K : St → Option β) (e0 : Nat) (hx : ∀ k e, e0 ≤ e → e ≤ n → kc B n e ≠ kd → bd k (st e) = K (st e)) (hs : ∀ k e, e0 ≤ e → e < n → kc B n e = kd → bd k (st e) = k (st (e + 1))) : ∀ m fuel e, e0 ≤ e → e + m = n → m < fuel → lp bot bd fuel (st e) = K (st (run B n kd e)) := by
  intro m
  induction m with
  | zero =>
    intro fuel e h1 h2 hf
    obtain ⟨F, rfl⟩ : ∃ F', fuel = F' + 1 := ⟨fuel - 1, by omega⟩
    rw [lp_s, hx _ e h1 (by omega) (by rw [kc_end (by omega)]; exact h0.symm), run_n B n kd (by omega)]
  | succ m ih =>
    intro fuel e h1 h2 hf
    obtain ⟨F, rfl⟩ : ∃ F', fuel = F' + 1 := ⟨fuel - 1, by omega⟩
    rw [lp_s]
    by_cases hk : kc B n e = kd
    · rw [hs _ e h1 (by omega) hk, ih F (e + 1) (by omega) (by omega) (by omega), run_s (by omega) hk]
    · rw [hx _ e h1 (by omega) hk, run_x hk]
/-! a token: its start, its first kind, its end, its kind -/
def tkS (B : Nat → Int32) (n e : Nat) : Nat := run B n 4 e
def tk0 (B : Nat → Int32) (n e : Nat) : Nat := kc B n (tkS B n e)
def tkR (B : Nat → Int32) (n e : Nat) : Nat := if tk0 B n e = 1 ∨ tk0 B n e = 2 then run B n (tk0 B n e) (tkS B n e) else if tk0 B n e = 3 then tkS B n e + 1 else tkS B n e
def tkK (B : Nat → Int32) (n e : Nat) : Nat := if (tk0 B n e = 1 ∧ 10 < tkR B n e - tkS B n e) ∨ (tk0 B n e = 2 ∧ 6 < tkR B n e - tkS B n e) then 5 else tk0 B n e
def cvl (B : Nat → Int32) (s : Nat) : Nat → Int32
  | 0 => 0
  | m + 1 => cvl B s m * 10 + B (s + m) - 48
theorem tkS_f {B : Nat → Int32} {n e : Nat} (he : e ≤ n) : e ≤ tkS B n e ∧ tkS B n e ≤ n ∧ kc B n (tkS B n e) ≠ 4 := by
  obtain ⟨a1, a2, -, a4⟩ := run_f (B := B) (n := n) (kd := 4) (by decide) (n - e) e (by omega)
  exact ⟨a1, a2, a4⟩
theorem tkR_f {B : Nat → Int32} {n e : Nat} (he : e ≤ n) : tkS B n e ≤ tkR B n e ∧ tkR B n e ≤ n ∧ ((tk0 B n e = 1 ∨ tk0 B n e = 2) → tkS B n e < tkR B n e ∧ ∀ i, tkS B n e ≤ i → i < tkR B n e → kc B n i = tk0 B n e) := by
  obtain ⟨s1, s2, -⟩ := tkS_f (B := B) he
  unfold tkR
  by_cases h : tk0 B n e = 1 ∨ tk0 B n e = 2
  · rw [if_pos h]
    have h0 : tk0 B n e ≠ 0 := by omega
    have hin : tkS B n e < n := kc_in h0
    obtain ⟨a1, a2, a3, a4⟩ := run_f (B := B) (n := n) (kd := tk0 B n e) h0 (n - tkS B n e) (tkS B n e) (by omega)
    refine ⟨a1, a2, fun _ => ⟨?_, a3⟩⟩
    rcases Nat.lt_or_eq_of_le a1 with z | z
    · exact z
    · rw [← z] at a4; exact absurd rfl a4
  · rw [if_neg h]
    by_cases h3 : tk0 B n e = 3
    · rw [if_pos h3]
      have hin : tkS B n e < n := kc_in (show kc B n (tkS B n e) ≠ 0 by have : kc B n (tkS B n e) = 3 := h3; omega)
      exact ⟨by omega, by omega, fun z => absurd z h⟩
    · rw [if_neg h3]
      exact ⟨Nat.le_refl _, s2, fun z => absurd z h⟩
/-- the bytes that both sides hold -/
def CB (S : St) (ad : Nat → Nat) (B : Nat → Int32) (n : Nat) : Prop := TR S ad ∧ n ≤ 1500 ∧ ∀ i, i < n → gI S (ad 13) i = B i
theorem CB_q {B : Nat → Int32} {n : Nat} (h : CB S ad B n) (T : Nat → Int32) : CB (qI S (ad 12) T) ad B n := ⟨TR_SR0 (SR0_qI _ _ _) h.1, h.2.1, fun i hi => by rw [gI_qI, if_neg (fun z => absurd ((h.1.1 _ _).mp z) (by decide))]; exact h.2.2 i hi⟩
theorem ck_C (x : Int32) : (if x < 97 then (if x < 48 then (if x = 32 then some 4 else if x = 10 then some 4 else if x = 59 then some 3 else some 5) else if 57 < x then (if x = 32 then some 4 else if x = 10 then some 4 else if x = 59 then some 3 else some 5) else some 2) else if 122 < x then (if x < 48 then (if x = 32 then some 4 else if x = 10 then some 4 else if x = 59 then some 3 else some 5) else if 57 < x then (if x = 32 then some 4 else if x = 10 then some 4 else if x = 59 then some 3 else some 5) else some 2) else some (1 : Int32)) = some (nI (ck x)) := by
  have e1 : x < 97 ↔ x.toInt < 97 := by rw [Int32.lt_iff_toInt_lt]; exact Iff.rfl
  have e2 : 122 < x ↔ 122 < x.toInt := by rw [Int32.lt_iff_toInt_lt]; exact Iff.rfl
  have e3 : x < 48 ↔ x.toInt < 48 := by rw [Int32.lt_iff_toInt_lt]; exact Iff.rfl
  have e4 : 57 < x ↔ 57 < x.toInt := by rw [Int32.lt_iff_toInt_lt]; exact Iff.rfl
  have k7 : ∀ z : Nat, z = (if x = 32 ∨ x = 10 then 4 else if x = 59 then 3 else 5) → (if x = 32 then some (4 : Int32) else if x = 10 then some 4 else if x = 59 then some 3 else some 5) = some (nI z) := by
    intro z hz
    rw [hz]
    by_cases a : x = 32
    · rw [if_pos a, if_pos (Or.inl a)]; rfl
    · rw [if_neg a]
      by_cases b : x = 10
      · rw [if_pos b, if_pos (Or.inr b)]; rfl
      · have ab : ¬ (x = 32 ∨ x = 10) := fun q => q.elim a b
        rw [if_neg b, if_neg ab]
        by_cases c : x = 59
        · rw [if_pos c, if_pos c]; rfl
        · rw [if_neg c, if_neg c]; rfl
  unfold ck isLt isDg
  by_cases h1 : x.toInt < 97
  · rw [if_pos (e1.mpr h1)]
    have n1 : ¬ ((decide (97 ≤ x.toInt) && decide (x.toInt ≤ 122)) = true) := by rw [Bool.and_eq_true, decide_eq_true_eq, decide_eq_true_eq]; omega
    rw [if_neg n1]
    by_cases h3 : x.toInt < 48
    · have n2 : ¬ ((decide (48 ≤ x.toInt) && decide (x.toInt ≤ 57)) = true) := by rw [Bool.and_eq_true, decide_eq_true_eq, decide_eq_true_eq]; omega
      rw [if_pos (e3.mpr h3), if_neg n2]
      exact k7 _ rfl
    · rw [if_neg (fun q => h3 (e3.mp q))]
      by_cases h4 : 57 < x.toInt
      · have n2 : ¬ ((decide (48 ≤ x.toInt) && decide (x.toInt ≤ 57)) = true) := by rw [Bool.and_eq_true, decide_eq_true_eq, decide_eq_true_eq]; omega
        rw [if_pos (e4.mpr h4), if_neg n2]
        exact k7 _ rfl
      · have n2 : ((decide (48 ≤ x.toInt) && decide (x.toInt ≤ 57)) = true) := by rw [Bool.and_eq_true, decide_eq_true_eq, decide_eq_true_eq]; omega
        rw [if_neg (fun q => h4 (e4.mp q)), if_pos n2]; rfl
  · rw [if_neg (fun q => h1 (e1.mp q))]
    by_cases h2 : 122 < x.toInt
    · have n1 : ¬ ((decide (97 ≤ x.toInt) && decide (x.toInt ≤ 122)) = true) := by rw [Bool.and_eq_true, decide_eq_true_eq, decide_eq_true_eq]; omega
      have n2 : ¬ ((decide (48 ≤ x.toInt) && decide (x.toInt ≤ 57)) = true) := by rw [Bool.and_eq_true, decide_eq_true_eq, decide_eq_true_eq]; omega
      rw [if_pos (e2.mpr h2), if_neg n1, if_neg n2, if_neg (fun q => by have := e3.mp q; omega), if_pos (e4.mpr (by omega))]
      exact k7 _ rfl
    · have n1 : ((decide (97 ≤ x.toInt) && decide (x.toInt ≤ 122)) = true) := by rw [Bool.and_eq_true, decide_eq_true_eq, decide_eq_true_eq]; omega
      rw [if_neg (fun q => h2 (e2.mp q)), if_pos n1]; rfl
theorem C_kindAt {B : Nat → Int32} {n : Nat} (h : CB S ad B n) (h1 : gI S (ad 12) 1 = nI n) {i : Nat} (hi : i ≤ 1500) : f_X9_kindAt S (ad 12) (nI i) = some (nI (kc B n i)) := by
  obtain ⟨t, hn, hB⟩ := h
  unfold f_X9_kindAt kc
  rw [if_neg (nI_pos (by omega)), lt_n, h1]
  by_cases hin : i < n
  · rw [if_neg (by rw [nI_leI (by omega) (by omega)]; omega), if_pos (by rw [show (1500 : Int32) = nI 1500 from rfl, nI_ltI (by omega) (by omega)]; omega), lt_n, r_12_0 t, ldI_at (by rw [n_13 t]; omega) (by rw [n_13 t]; decide), hB i hin, jn_n, jn_n, if_pos hin]
    exact ck_C (B i)
  · rw [if_pos (by rw [nI_leI (by omega) (by omega)]; omega), if_neg hin]; rfl
