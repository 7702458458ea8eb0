/-! the pure part: numbers of a text, the reference; words -/
variable {S S0 S1 S2 S' S'' S3 X Y : St} {ad : Nat → Nat} {b d j k : Nat} {v v0 v' v1 v2 u w : Nat → Int64} {np nf no mo no' mo' x y : Nat}
/-- the reference has the token that follows e -/
def RT (B M : Nat → Int32) (x : Int64) (n e : Nat) : Prop := M 9 = nI n ∧ M 14 = nI (tkS B n e) ∧ M 13 = nI (km (tkK B n e)) ∧ (tkK B n e ≠ 5 → M 10 = nI (tkR B n e)) ∧ (tkK B n e = 1 → x = pkd (fun i => B (tkS B n e + i)) (tkR B n e - tkS B n e)) ∧ (tkK B n e = 2 → x = lN (tkN B n e)) ∧ e ≤ n
/-- the fields that no token changes -/
def MI (M M' : Nat → Int32) : Prop := ∀ i, i ≠ 10 → i ≠ 13 → i ≠ 14 → i ≠ 15 → M' i = M i
theorem MI.rf {M : Nat → Int32} : MI M M := fun _ _ _ _ _ => rfl
theorem MI.tr {M M' M'' : Nat → Int32} (h : MI M M') (h2 : MI M' M'') : MI M M'' := fun i a1 a2 a3 a4 => (h2 i a1 a2 a3 a4).trans (h i a1 a2 a3 a4)
theorem M_ad {B M : Nat → Int32} {x : Int64} {n e : Nat} (h : MB S ad B n) (h9 : M 9 = nI n) (h10 : M 10 = nI e) (he : e ≤ n) : ∃ M' x', f_X12_advance (rfS S ad M x) (ad 1) = some (rfS S ad M' x') ∧ RT B M' x' n e ∧ MI M M' ∧ M' 15 = M 15 := by
  obtain ⟨M', x', h1, m1, m2, m3, m4, m5, m6⟩ := M_adv (x := x) h h9 h10 he
  refine ⟨M', x', h1, ⟨(m1 9 (by decide) (by decide) (by decide)).trans h9, m2, m3, m4, m5, fun z => ?_, he⟩, fun i a1 a2 a3 a4 => m1 i a1 a2 a3, m1 15 (by decide) (by decide) (by decide)⟩
  rw [m6 z, (tkN_f he z).2.2]
theorem km_le {k : Nat} (h : k ≤ 5) : km k ≤ 4 ∨ km k = k := by unfold km; by_cases z : k = 5 <;> simp [z]
theorem km_eq {k c : Nat} (h : k ≤ 5) (hc : c ≤ 3) : (nI (km k) = nI c) = (k = c) := by
  refine propext ?_
  unfold km
  by_cases z : k = 5
  · rw [if_pos z, nI_eq (by omega) (by omega)]; omega
  · rw [if_neg z, nI_eq (by omega) (by omega)]
/-- the reference's error -/
def rfF (M : Nat → Int32) (c p : Nat) : Nat → Int32 := udt (udt M 11 (nI c)) 12 (nI p)
theorem M_fail {B M : Nat → Int32} {x : Int64} {n e : Nat} (r : RT B M x n e) {k : Nat} {i : Int32} (hi : i = nI k) : f_X12_fail (rfS S ad M x) (ad 1) i = some (0, rfS S ad (rfF M k (tkS B n e)) x) := by
  have u : udt M 11 i 14 = nI (tkS B n e) := by rw [udt_n (by decide), r.2.1]
  simp only [f_X12_fail, lt_n, rfS_u, rfS_I, u]
  rw [hi]; rfl
/-- a number: either it is read, and the next token is there, or it fails -/
theorem M_num {B M : Nat → Int32} {x : Int64} {n e a : Nat} (h : MB S ad B n) (r : RT B M x n e) (ha : a ≤ 1000000) (hi : Int32) : (eNum B n e a hi = none ∧ ∃ M' x', f_X12_readNumber (rfS S ad M x) (ad 1) (nI a) hi = some (1, rfS S ad M' x') ∧ RT B M' x' n (tkR B n e) ∧ MI M M' ∧ M' 15 = nI (tkN B n e) ∧ tkN B n e < 1000000) ∨ (∃ c, eNum B n e a hi = some (c, tkS B n e) ∧ (1 ≤ c ∧ c ≤ 5) ∧ f_X12_readNumber (rfS S ad M x) (ad 1) (nI a) hi = some (0, rfS S ad (rfF M c (tkS B n e)) x)) := by
  have he := r.2.2.2.2.2.2
  have k2 : (nI (km (tkK B n e)) = 2) = (tkK B n e = 2) := km_eq tkK_le (c := 2) (by omega)
  unfold f_X12_readNumber eNum
  simp only [lt_n, rfS_I, r.2.2.1, k2, rfS_J, M_inRange, cl_n, if_bI]
  by_cases hk : tkK B n e = 2
  · obtain ⟨hN, -, -⟩ := tkN_f he hk
    have hx := r.2.2.2.2.2.1 hk
    have e1 : (decide ((nI a).toInt64 ≤ x) && decide (x ≤ hi.toInt64)) = decide (a ≤ tkN B n e ∧ nI (tkN B n e) ≤ hi) := by
      rw [hx, Bool.eq_iff_iff, Bool.and_eq_true, decide_eq_true_eq, decide_eq_true_eq, decide_eq_true_eq, nI_l (by omega), pk_lLE (by omega) (by omega), ← nI_l (show tkN B n e < 2 ^ 31 by omega), tl_le]
    rw [if_pos hk, if_pos hk, e1]
    by_cases hr : a ≤ tkN B n e ∧ nI (tkN B n e) ≤ hi
    · left
      rw [if_pos hr]
      refine ⟨rfl, ?_⟩
      have hR := (tkR_f (B := B) he).2.1
      obtain ⟨M', x', a1, a2, a3, a4⟩ := M_ad (S := S) (M := udt M 15 (Int64.toInt32 x)) (x := x) h (by rw [udt_n (by decide)]; exact r.1) (by rw [udt_n (by decide)]; exact r.2.2.2.1 (by omega)) hR
      refine ⟨M', x', ?_, a2, fun i b1 b2 b3 b4 => (a3 i b1 b2 b3 b4).trans (udt_n b4), ?_, hN⟩
      · rw [if_pos (decide_eq_true hr), rfS_u, a1, cl_n]
      · rw [a4, udt_e, hx, lN_i]
    · right
      refine ⟨2, by rw [if_neg hr], by omega, ?_⟩
      rw [if_neg (fun z => hr (of_decide_eq_true z)), M_fail r (i := 2) (k := 2) rfl, cl_n]; rfl
  · right
    refine ⟨1, by rw [if_neg hk], by omega, ?_⟩
    rw [if_neg hk, M_fail r (i := 1) (k := 1) rfl, cl_n]; rfl
theorem M_end {B M : Nat → Int32} {x : Int64} {n e : Nat} (h : MB S ad B n) (r : RT B M x n e) : (eEnd B n e = none ∧ ∃ M' x', f_X12_readEnd (rfS S ad M x) (ad 1) = some (1, rfS S ad M' x') ∧ RT B M' x' n (tkR B n e) ∧ MI M M') ∨ (eEnd B n e = some (1, tkS B n e) ∧ f_X12_readEnd (rfS S ad M x) (ad 1) = some (0, rfS S ad (rfF M 1 (tkS B n e)) x)) := by
  have he := r.2.2.2.2.2.2
  have k3 : (nI (km (tkK B n e)) = 3) = (tkK B n e = 3) := km_eq tkK_le (c := 3) (by omega)
  unfold f_X12_readEnd eEnd
  simp only [lt_n, rfS_I, r.2.2.1, k3]
  by_cases hk : tkK B n e = 3
  · left
    rw [if_pos hk, if_pos hk]
    refine ⟨rfl, ?_⟩
    obtain ⟨M', x', a1, a2, a3, a4⟩ := M_ad (S := S) (M := M) (x := x) h r.1 (r.2.2.2.1 (by omega)) (tkR_f (B := B) he).2.1
    exact ⟨M', x', by rw [a1, cl_n], a2, a3⟩
  · right
    rw [if_neg hk, if_neg hk, M_fail r (i := 1) (k := 1) rfl, cl_n]
    exact ⟨rfl, rfl⟩
/-! words -/
def wdC (i : Nat) : Nat → Int32 := fun k => (bytS.getD i []).getD k 0
/-- the word of a token is the constant i -/
def isW (B : Nat → Int32) (n e i : Nat) : Bool := decide (tkK B n e = 1 ∧ tkR B n e - tkS B n e = lenS.getD i 0 ∧ ∀ k, k < lenS.getD i 0 → B (tkS B n e + k) = wdC i k)
theorem wd_len : ∀ i, i < 19 → 1 ≤ lenS.getD i 0 ∧ lenS.getD i 0 ≤ 10 ∧ ∀ k, k < lenS.getD i 0 → isLt (wdC i k) = true := by decide +kernel
theorem C_isW {B T : Nat → Int32} {n e : Nat} {q : Option (Nat × Nat)} (h : CB S ad B n) (c : CT1 B T n e q) {i : Nat} (hi : i < 19) : f_X9_isWord (qI S (ad 12) T) (ad 12) i = some (bI (isW B n e i)) := by
  have hn := h.2.1
  have gT : ∀ (T : Nat → Int32) i, gI (qI S (ad 12) T) (ad 12) i = T i := fun T i => by rw [gI_qI, if_pos rfl]
  obtain ⟨c1, c2, c3, c4, he, -⟩ := c
  obtain ⟨l1, l2, l3⟩ := wd_len i hi
  obtain ⟨r1, r2, -⟩ := tkR_f (B := B) he
  have k1 : (nI (tkK B n e) = 1) = (tkK B n e = 1) := propext (nI3 tkK_le (z := 1) (by omega))
  have tkq : ∀ {β : Type} (k : Option β), tk i k = k := fun k => if_pos (show i < nS from Nat.lt_of_lt_of_le hi (by decide))
  have hq := CB_q h T
  unfold f_X9_isWord isW
  simp only [lt_n, gT, c2, c3, c4, k1, tkq, str_len _ (show i < 26 by omega), cl_n, nI_sub r1]
  by_cases hk : tkK B n e = 1
  · rw [if_pos hk]
    by_cases hL : tkR B n e - tkS B n e = lenS.getD i 0
    · rw [if_pos (by rw [hL])]
      generalize hl : lenS.getD i 0 = L at *
      refine lp_ex2 (fun (k : Int32 → Option Int32) m (_ : Unit) => k (nI m)) _ _ L (fun m _ => ∀ k, k < m → B (tkS B n e + k) = wdC i k) (fun r => r = some (bI (decide (tkK B n e = 1 ∧ tkR B n e - tkS B n e = L ∧ ∀ k, k < L → B (tkS B n e + k) = wdC i k)))) ?_ ?_ L FU 0 () (by omega) (fun k hk => absurd hk (by omega)) (show L < 6000 by omega)
      · intro k m _ hm hJ
        have n1 : ¬ nI L ≤ nI m := by rw [nI_leI (by omega) (by omega)]; omega
        have ldp : ∀ (K : Int32 → Option Int32), ldI (qI S (ad 12) T) (ad 13) (nI (tkS B n e) + nI m) K = K (B (tkS B n e + m)) := fun K => by
          rw [nI_add, ldI_at (by rw [n_13 hq.1]; omega) (by rw [n_13 hq.1]; decide), hq.2.2 _ (by omega)]
        have cat : f_J0_charAt_5068e (qI S (ad 12) T) i (nI m) = some (wdC i m) := str_at _ (show i < 26 by omega) (by rw [hl]; exact hm)
        simp only [n1, if_false, r_12_0 hq.1, ldp, cat, cl_n, nI_1]
        by_cases hb : B (tkS B n e + m) = wdC i m
        · right
          refine ⟨(), fun z hz => ?_, by rw [if_pos hb]⟩
          by_cases e : z = m
          · rw [e]; exact hb
          · exact hJ z (by omega)
        · left
          rw [if_neg hb, decide_eq_false (fun z => hb (z.2.2 m hm))]; rfl
      · intro k _ hJ
        have n1 : nI L ≤ nI L := by rw [nI_leI (by omega) (by omega)]; omega
        simp only [n1, if_true]
        rw [decide_eq_true ⟨hk, hL, hJ⟩]; rfl
    · rw [if_neg (fun z => hL ((nI_eq (by omega) (by omega)).mp z)), decide_eq_false (fun z => hL z.2.1)]; rfl
  · rw [if_neg hk, decide_eq_false (fun z => hk z.1)]; rfl
/-- the reference compares the packed words -/
theorem isW_pk {B : Nat → Int32} {n e i : Nat} (he : e ≤ n) (hi : i < 19) (hk : tkK B n e = 1) : (pkd (fun k => B (tkS B n e + k)) (tkR B n e - tkS B n e) = pkd (wdC i) (lenS.getD i 0)) ↔ isW B n e i = true := by
  obtain ⟨-, hw⟩ := tkK_1 he hk
  rw [pkd_inj hw (wd_len i hi), isW, decide_eq_true_eq]
  constructor
  · rintro ⟨h1, h2⟩
    exact ⟨hk, h1, fun k hk => h2 k (by omega)⟩
  · rintro ⟨-, h1, h2⟩
    exact ⟨h1, fun k hk => h2 k (by omega)⟩
