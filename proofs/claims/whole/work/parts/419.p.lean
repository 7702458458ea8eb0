/-! the pure part: the halving line -/
variable {S S' : St} {ad : Nat → Nat} {b d j k : Nat} {v : Nat → Int64} {np nf no mo : Nat}
def sm (g : Nat → Nat) : Nat → Nat
  | 0 => 0
  | n + 1 => sm g n + g n
theorem sm_congr {g h : Nat → Nat} : ∀ n, (∀ i, i < n → g i = h i) → sm g n = sm h n := by
  intro n
  induction n with
  | zero => intro _; rfl
  | succ n ih => intro e; rw [sm, sm, ih (fun i hi => e i (by omega)), e n (by omega)]
theorem sm_add (g h : Nat → Nat) : ∀ n, sm (fun i => g i + h i) n = sm g n + sm h n := by
  intro n
  induction n with
  | zero => rfl
  | succ n ih => simp only [sm, ih]; omega
theorem sm_app (g : Nat → Nat) (m : Nat) : ∀ n, sm g (m + n) = sm g m + sm (fun i => g (m + i)) n := by
  intro n
  induction n with
  | zero => rfl
  | succ n ih => rw [← Nat.add_assoc, sm, ih, sm, Nat.add_assoc]
theorem sm_nest (g : Nat → Nat) (W : Nat) : ∀ n, sm g (W * n) = sm (fun y => sm (fun x => g (W * y + x)) W) n := by
  intro n
  induction n with
  | zero => rfl
  | succ n ih => rw [Nat.mul_succ, sm_app, ih, sm]
theorem sm_zero {g : Nat → Nat} : ∀ n, (∀ i, i < n → g i = 0) → sm g n = 0 := by
  intro n
  induction n with
  | zero => intro _; rfl
  | succ n ih => intro e; rw [sm, ih (fun i hi => e i (by omega)), e n (by omega)]
theorem sm_single {g : Nat → Nat} {L : Nat} : ∀ n, L < n → (∀ i, i < n → i ≠ L → g i = 0) → sm g n = g L := by
  intro n
  induction n with
  | zero => intro h; omega
  | succ n ih =>
    intro hL e
    by_cases h : L = n
    · subst h; rw [sm, sm_zero L (fun i hi => e i (by omega) (by omega)), Nat.zero_add]
    · rw [sm, ih (by omega) (fun i hi => e i (by omega)), e n (by omega) (by omega)]; omega
theorem sm_le {g h : Nat → Nat} : ∀ n, (∀ i, i < n → g i ≤ h i) → sm g n ≤ sm h n := by
  intro n
  induction n with
  | zero => intro _; exact Nat.le_refl _
  | succ n ih => intro e; rw [sm, sm]; have := ih (fun i hi => e i (by omega)); have := e n (by omega); omega
theorem sm_bd {g : Nat → Nat} : ∀ n, (∀ i, i < n → g i ≤ 1) → sm g n ≤ n := by
  intro n
  induction n with
  | zero => intro _; exact Nat.le_refl _
  | succ n ih => intro e; rw [sm]; have := ih (fun i hi => e i (by omega)); have := e n (by omega); omega
theorem itr_sm (g : Nat → Nat) : ∀ (n : Nat) (s : Nat), itr (fun c (s : Int32) => s + nI (g c)) 0 n (nI s) = nI (s + sm g n) := by
  intro n
  induction n with
  | zero => intro s; rfl
  | succ n ih => intro s; rw [itr_succ, ih, nI_add, sm, Nat.zero_add, Nat.add_assoc]
def own1 (v : Nat → Int64) (p : Int32) (c : Nat) : Nat := if v (250 + c) = p.toInt64 then 1 else 0
def colN (v : Nat → Int64) (p : Int32) (x : Nat) : Nat := sm (fun y => own1 v p (30 * y + x)) 30
def rowN (v : Nat → Int64) (p : Int32) (y : Nat) : Nat := sm (fun x => own1 v p (30 * y + x)) 30
def arN (v : Nat → Int64) (p : Int32) : Nat := sm (own1 v p) 900
theorem mArea_N (p : Int32) : mArea v p = nI (arN v p) := by
  rw [mArea, arN, ← Nat.zero_add (sm (own1 v p) 900), ← itr_sm (own1 v p) 900 0]
  refine itr_congr 900 0 _ (fun c s _ _ => ?_)
  simp only [own1]
  by_cases h : v (250 + c) = p.toInt64
  · simp only [h, if_true]; rfl
  · simp only [h, if_false]; rfl
/-- cells before a line: i < 29 columns before i + 1, else rows before i - 28 -/
def bfN (v : Nat → Int64) (p : Int32) (i : Nat) : Nat := if i < 29 then sm (colN v p) (i + 1) else sm (rowN v p) (i - 28)
theorem cols (p : Int32) : ∀ L, L ≤ 30 → sm (fun c => if c % 30 < L then own1 v p c else 0) 900 = sm (colN v p) L := by
  intro L
  induction L with
  | zero => intro _; exact sm_zero 900 (fun i _ => by simp)
  | succ L ih =>
    intro hL
    rw [show sm (colN v p) (L + 1) = sm (colN v p) L + colN v p L from rfl, ← ih (by omega), colN]
    have e1 : sm (fun c => if c % 30 < L + 1 then own1 v p c else 0) 900 = sm (fun c => (if c % 30 < L then own1 v p c else 0) + (if c % 30 = L then own1 v p c else 0)) 900 := by
      refine sm_congr 900 (fun c _ => ?_)
      by_cases h1 : c % 30 < L
      · rw [if_pos (by omega), if_pos h1, if_neg (by omega)]; rfl
      · by_cases h2 : c % 30 = L
        · rw [if_pos (by omega), if_neg h1, if_pos h2, Nat.zero_add]
        · rw [if_neg (by omega), if_neg h1, if_neg h2]
    rw [e1, sm_add, Nat.add_left_cancel_iff]
    rw [show sm (fun c => if c % 30 = L then own1 v p c else 0) 900 = sm (fun c => if c % 30 = L then own1 v p c else 0) (30 * 30) from rfl, sm_nest]
    refine sm_congr 30 (fun y hy => ?_)
    rw [sm_single (L := L) 30 (by omega)]
    · rw [if_pos (by omega)]
    · intro x hx hxl
      rw [if_neg (by omega)]
theorem rows (p : Int32) {L : Nat} (hL : L ≤ 30) : sm (fun c => if c / 30 < L then own1 v p c else 0) 900 = sm (rowN v p) L := by
  have e := sm_app (fun c => if c / 30 < L then own1 v p c else 0) (30 * L) (900 - 30 * L)
  rw [show 30 * L + (900 - 30 * L) = 900 by omega] at e
  rw [e, sm_zero (900 - 30 * L), Nat.add_zero, sm_nest]
  · refine sm_congr L (fun y hy => ?_)
    rw [rowN]
    refine sm_congr 30 (fun x hx => ?_)
    rw [if_pos (by omega)]
  · intro i hi
    rw [if_neg (by omega)]
theorem bfN_le (p : Int32) {i : Nat} (hi : i < 58) : bfN v p i ≤ arN v p := by
  rw [bfN]
  by_cases h : i < 29
  · rw [if_pos h, ← cols p (i + 1) (by omega), arN]
    refine sm_le 900 (fun c _ => ?_)
    by_cases h1 : c % 30 < i + 1
    · rw [if_pos h1]; exact Nat.le_refl _
    · rw [if_neg h1]; exact Nat.zero_le _
  · rw [if_neg h, ← rows p (show i - 28 ≤ 30 by omega), arN]
    refine sm_le 900 (fun c _ => ?_)
    by_cases h1 : c / 30 < i - 28
    · rw [if_pos h1]; exact Nat.le_refl _
    · rw [if_neg h1]; exact Nat.zero_le _
theorem arN_le (p : Int32) : arN v p ≤ 900 := sm_bd 900 (fun i _ => by unfold own1; by_cases h : v (250 + i) = p.toInt64 <;> simp [h])
def lnN (i : Nat) : Nat := if i < 29 then i + 1 else 100 + (i - 28)
theorem M_before (h : Mv S ad v np nf no mo) (p : Int32) {i : Nat} (hi : i < 58) : f_X12_cellsBefore S (ad 1) p (nI (lnN i)) = some (nI (bfN v p i)) := by
  have e : bfN v p i = sm (fun c => if (if i < 29 then c % 30 < i + 1 else c / 30 < i - 28) then own1 v p c else 0) 900 := by
    by_cases h : i < 29
    · simp only [bfN, h, if_true]; exact (cols p (i + 1) (by omega)).symm
    · simp only [bfN, h, if_false]; exact (rows p (show i - 28 ≤ 30 by omega)).symm
  rw [e, ← Nat.zero_add (sm _ 900), ← itr_sm]
  simp only [f_X12_cellsBefore, lt_n, jn_n, r_1_0 h.1]
  refine lp_for0 (fun (k : Int32 → Int32 → Option Int32) i s => k s (nI i)) _ _ 900 (by decide) _ some (fun _ _ => True) 0 trivial ?_ (fun _ _ _ _ => trivial) ?_
  · intro k c s hc _
    rw [if_neg (ge900 hc), ldSe h (ad250 c) (by omega), rm30 (by omega), dv30 (by omega)]
    simp only [own1, nI_1]
    by_cases hp : v (250 + c) = p.toInt64
    · simp only [hp, if_true]
      by_cases h29 : i < 29
      · have e1 : lnN i = i + 1 := by rw [lnN, if_pos h29]
        have e2 : ¬ (100 : Int32) ≤ nI (i + 1) := nI_ge (show i + 1 < 100 by omega) (by decide)
        have e3 : (nI (i + 1) ≤ nI (c % 30)) = ¬ (c % 30 < i + 1) := by rw [nI_leI (by omega) (by omega)]; exact propext (by omega)
        simp only [e1, e2, if_false, h29, if_true, e3]
        by_cases h4 : c % 30 < i + 1
        · simp only [h4, not_true, if_false, if_true]; rfl
        · simp only [h4, not_false_iff, if_true, if_false, nI_0]
      · have e1 : lnN i = 100 + (i - 28) := by rw [lnN, if_neg h29]
        have e2 : (100 : Int32) ≤ nI (100 + (i - 28)) := nI_le (show 100 ≤ 100 + (i - 28) by omega) (by omega)
        have e4 : nI (100 + (i - 28)) - 100 = nI (i - 28) := by rw [show (100 : Int32) = nI 100 from rfl, nI_sub (Nat.le_add_right _ _), Nat.add_sub_cancel_left]
        have e3 : (nI (i - 28) ≤ nI (c / 30)) = ¬ (c / 30 < i - 28) := by rw [nI_leI (by omega) (by omega)]; exact propext (by omega)
        simp only [e1, e2, if_true, h29, if_false, e4, e3]
        by_cases h4 : c / 30 < i - 28
        · simp only [h4, not_true, if_false, if_true]; rfl
        · simp only [h4, not_false_iff, if_true, if_false, nI_0]
    · have e5 : ∀ (P : Prop) [Decidable P], (if P then (0 : Nat) else 0) = 0 := fun P _ => by by_cases hP : P <;> simp [hP]
      simp only [hp, if_false, e5, nI_0]
  · intro k s _
    rw [if_pos le900]
theorem C_sizeW (c : CV S ad b v np nf no mo) (p : Int32) {x1 y1 m n : Nat} (hx : x1 + m ≤ 30) (hy : y1 + n ≤ 30) : f_X3_sizeWithin S (ad (b + 2)) p (nI x1) (nI y1) (nI (x1 + m)) (nI (y1 + n)) = some (nI (sm (fun y => sm (fun x => own1 v p (30 * (y1 + y) + (x1 + x))) m) n)) := by
  have e : nI (sm (fun y => sm (fun x => own1 v p (30 * (y1 + y) + (x1 + x))) m) n) = itr (fun y (s : Int32) => s + nI (sm (fun x => own1 v p (30 * (y1 + y) + (x1 + x))) m)) 0 n (nI 0) := by rw [itr_sm, Nat.zero_add]
  rw [e]
  simp only [f_X3_sizeWithin, jn_n]
  refine lp_for0 (fun (k : Int32 → Int32 → Option Int32) i s => k s (nI (y1 + i))) _ _ n (by omega) _ some (fun _ s => ∃ q, s = nI q) (nI 0) ⟨0, rfl⟩ ?_ ?_ ?_
  · rintro k y s hy' ⟨q, rfl⟩
    have h1 : ¬ nI (y1 + n) ≤ nI (y1 + y) := by rw [nI_leI (by omega) (by omega)]; omega
    rw [if_neg h1]
    have e2 : nI q + nI (sm (fun x => own1 v p (30 * (y1 + y) + (x1 + x))) m) = itr (fun x (s : Int32) => s + nI (own1 v p (30 * (y1 + y) + (x1 + x)))) 0 m (nI q) := by rw [itr_sm (fun x => own1 v p (30 * (y1 + y) + (x1 + x))), nI_add]
    rw [e2]
    refine lp_for0 (fun (k : Int32 → Int32 → Option Int32) i s => k s (nI (x1 + i))) _ _ m (by omega) _ (fun s => k s (nI (y1 + (y + 1)))) (fun _ _ => True) (nI q) trivial ?_ (fun _ _ _ _ => trivial) ?_
    · intro k' x s hx' _
      have h2 : ¬ nI (x1 + m) ≤ nI (x1 + x) := by rw [nI_leI (by omega) (by omega)]; omega
      rw [if_neg h2, C_belongs c.t c.hb c.G]
      simp only [cl_s, if_bI, own, vin_nI (show x1 + x < 30 by omega) (by decide), vin_nI (show y1 + y < 30 by omega) (by decide), Bool.true_and, decide_eq_true_eq, nI_clamp (show x1 + x < 2 ^ 31 by omega), nI_clamp (show y1 + y < 2 ^ 31 by omega), nI_1, Nat.add_assoc, own1]
      by_cases hp : v (250 + (30 * (y1 + y) + (x1 + x))) = p.toInt64
      · simp only [hp, if_true]; rfl
      · simp only [hp, if_false, nI_0, Int32.add_zero]
    · intro k' s _
      have h2 : nI (x1 + m) ≤ nI (x1 + m) := by rw [nI_leI (by omega) (by omega)]; omega
      rw [if_pos h2, nI_1, Nat.add_assoc]
  · rintro i s hi ⟨q, rfl⟩
    exact ⟨_, nI_add _ _⟩
  · intro k s _
    have h2 : nI (y1 + n) ≤ nI (y1 + n) := by rw [nI_leI (by omega) (by omega)]; omega
    rw [if_pos h2]
def dfI (A i : Int32) : Int32 := if 0 ≤ (A - (2 * i)) then (A - (2 * i)) else 0 - (A - (2 * i))
def hvS (v : Nat → Int64) (p : Int32) (i : Nat) (s : Int32 × Int32) : Int32 × Int32 := if s.1 = -1 then (nI (lnN i), dfI (nI (arN v p)) (nI (bfN v p i))) else if dfI (nI (arN v p)) (nI (bfN v p i)) < s.2 then (nI (lnN i), dfI (nI (arN v p)) (nI (bfN v p i))) else s
def hvC (v : Nat → Int64) (p : Int32) (i : Nat) (s : Int32 × Int32) : Int32 × Int32 := if s.2 ≤ dfI (nI (arN v p)) (nI (bfN v p i)) then s else (nI (lnN i), dfI (nI (arN v p)) (nI (bfN v p i)))
theorem M_sizeI (S : St) (A i : Int32) : f_X12_size S (A - 2 * i) = some (dfI A i) := by
  simp only [f_X12_size, dfI]
  by_cases h : 0 ≤ A - 2 * i
  · simp only [h, if_true]
  · simp only [h, if_false, Int32.zero_sub]
theorem ab_nI' {a b : Nat} (ha : a < 9000) (hb : b < 9000) : (if 0 ≤ (nI a - nI b) then (nI a - nI b) else 0 - (nI a - nI b)) = nI (a - b + (b - a)) := by
  by_cases h : b ≤ a
  · rw [nI_sub h, if_pos (nI_pos' (by omega)), show b - a = 0 by omega, Nat.add_zero]
  · rw [if_neg (Int32.not_le.mpr (nI_neg_lt (by omega) (by omega))), show a - b = 0 by omega, Nat.zero_add, ← nI_sub (show a ≤ b by omega), Int32.zero_sub, Int32.neg_sub]
theorem dfI_le {A B : Nat} (h : B ≤ A) (hA : A ≤ 900) : dfI (nI A) (nI B) < nI A + 1 := by
  rw [dfI, mu2, nI_1, ab_nI' (by omega) (by omega), nI_ltI (by omega) (by omega)]
  omega
theorem hv_R (p : Int32) (hA : 0 < arN v p) : itr (hvC v p) 0 58 (-1, nI (arN v p) + 1) = itr (hvS v p) 0 58 (-1, 0) := by
  have hle := arN_le (v := v) p
  have := itr_R (f := hvC v p) (g := hvS v p) (fun i s t => (i = 0 ∧ s = (-1, nI (arN v p) + 1) ∧ t = (-1, 0)) ∨ (0 < i ∧ s = t ∧ ¬ t.1 = -1)) 58 0 (-1, nI (arN v p) + 1) (-1, 0) (Or.inl ⟨rfl, rfl, rfl⟩) ?_
  · rcases this with ⟨h, -⟩ | ⟨-, h, -⟩
    · exact absurd h (by decide)
    · exact h
  · rintro i s t - hi (⟨rfl, rfl, rfl⟩ | ⟨h0, rfl, h2⟩)
    · right
      refine ⟨by decide, ?_, ?_⟩
      · simp only [hvC, hvS, if_true]
        rw [if_neg (Int32.not_le.mpr (dfI_le (bfN_le p (by decide)) hle))]
      · simp only [hvS, if_true]
        exact nI_m1 (by decide)
    · right
      refine ⟨by omega, ?_, ?_⟩
      · simp only [hvC, hvS, h2, if_false]
        by_cases hx : dfI (nI (arN v p)) (nI (bfN v p i)) < s.2
        · simp only [hx, Int32.not_le.mpr hx, if_true, if_false]
        · simp only [hx, Int32.not_lt.mp hx, if_true, if_false]
      · simp only [hvS, h2, if_false]
        by_cases hx : dfI (nI (arN v p)) (nI (bfN v p i)) < s.2
        · simp only [hx, if_true]
          exact nI_m1 (by unfold lnN; by_cases h : i < 29 <;> simp only [h, if_true, if_false] <;> omega)
        · simp only [hx, if_false]; exact h2
theorem C_halving (c : CV S ad b v np nf no mo) (p : Int32) : f_X3_bestHalving S (ad (b + 2)) p = some (if arN v p = 0 then -1 else (itr (hvS v p) 0 58 (-1, 0)).1) := by
  have hle := arN_le (v := v) p
  simp only [f_X3_bestHalving, C_sizeOf c, mArea_N, cl_n, lt_n, jn_n]
  by_cases h0 : arN v p = 0
  · rw [h0, if_pos nI_0, if_pos rfl]
  · have : ¬ nI (arN v p) = 0 := nI_ne0 (by omega) (by omega)
    rw [if_neg this, if_neg h0, ← hv_R p (by omega)]
    have e0 := itr_add (hvC v p) 29 29 0 (-1, nI (arN v p) + 1)
    rw [show (58 : Nat) = 29 + 29 from rfl, e0]
    refine lp_for (fun (k : Int32 → Int32 → Int32 → Int32 → Option Int32) i (s : Int32 × Int32) => k s.1 s.2 (nI (sm (colN v p) i)) (nI (i + 1))) _ _ 29 (hvC v p) (fun s => some (itr (hvC v p) (0 + 29) 29 s).1) (fun _ _ => True) ?_ (fun _ _ _ _ => trivial) ?_ 29 FU 0 (-1, nI (arN v p) + 1) rfl trivial (show 29 < 6000 by omega)
    · intro k i s hi _
      have h1 : ¬ (30 : Int32) ≤ nI (i + 1) := ge30 (by omega)
      have e1 := C_sizeW c p (x1 := i) (y1 := 0) (m := 1) (n := 30) (by omega) (by omega)
      have e2 : sm (fun y => sm (fun x => own1 v p (30 * (0 + y) + (i + x))) 1) 30 = colN v p i := by
        rw [colN]; refine sm_congr 30 (fun y _ => ?_); simp only [sm, Nat.zero_add, Nat.add_zero]
      rw [e2, nI_0, show nI (0 + 30) = (30 : Int32) from rfl] at e1
      have e3 : bfN v p i = sm (colN v p) i + colN v p i := by rw [bfN, if_pos hi]; rfl
      have e4 : lnN i = i + 1 := by rw [lnN, if_pos hi]
      rw [if_neg h1, show nI (i + 1) - 1 = nI i from nI_pred i, e1]
      simp only [cl_n, nI_add, hvC, e3, e4, nI_1]
      rw [show sm (colN v p) (i + 1) = sm (colN v p) i + colN v p i from rfl]
      change (if s.2 ≤ dfI (nI (arN v p)) (nI (sm (colN v p) i + colN v p i)) then _ else _) = _
      by_cases hx : s.2 ≤ dfI (nI (arN v p)) (nI (sm (colN v p) i + colN v p i))
      · simp only [hx, if_true]
      · simp only [hx, if_false]; rfl
    · intro k s _
      rw [if_pos (show (30 : Int32) ≤ nI (29 + 1) from le30)]
      have e9 : itr (hvC v p) (0 + 29) 29 s = itr (fun i s => hvC v p (29 + i) s) 0 29 s := by rw [itr_sh]
      rw [e9]
      refine lp_for (fun (k : Int32 → Int32 → Int32 → Int32 → Option Int32) i (s : Int32 × Int32) => k s.1 s.2 (nI (sm (rowN v p) i)) (nI (i + 1))) _ _ 29 (fun i s => hvC v p (29 + i) s) (fun s => some s.1) (fun _ _ => True) ?_ (fun _ _ _ _ => trivial) ?_ 29 FU 0 s rfl trivial (show 29 < 6000 by omega)
      · intro k i s hi _
        have h1 : ¬ (30 : Int32) ≤ nI (i + 1) := ge30 (by omega)
        have e1 := C_sizeW c p (x1 := 0) (y1 := i) (m := 30) (n := 1) (by omega) (by omega)
        have e2 : sm (fun y => sm (fun x => own1 v p (30 * (i + y) + (0 + x))) 30) 1 = rowN v p i := by
          simp only [sm, rowN, Nat.zero_add, Nat.add_zero]
        rw [e2, nI_0, show nI (0 + 30) = (30 : Int32) from rfl] at e1
        have e3 : bfN v p (29 + i) = sm (rowN v p) i + rowN v p i := by rw [bfN, if_neg (by omega), show 29 + i - 28 = i + 1 by omega]; rfl
        have e4 : lnN (29 + i) = 100 + (i + 1) := by rw [lnN, if_neg (by omega)]; omega
        rw [if_neg h1, show nI (i + 1) - 1 = nI i from nI_pred i, e1]
        simp only [cl_n, nI_add, hvC, e3, e4, nI_1, ad100]
        rw [show sm (rowN v p) (i + 1) = sm (rowN v p) i + rowN v p i from rfl]
        change (if s.2 ≤ dfI (nI (arN v p)) (nI (sm (rowN v p) i + rowN v p i)) then _ else _) = _
        by_cases hx : s.2 ≤ dfI (nI (arN v p)) (nI (sm (rowN v p) i + rowN v p i))
        · simp only [hx, if_true]
        · simp only [hx, if_false]; rfl
      · intro k s _
        rw [if_pos (show (30 : Int32) ≤ nI (29 + 1) from le30)]
theorem Q_halvingLine (c : CV S ad b v np nf no mo) (p : Int32) : QB ad v np nf no mo 1 (f_X11_halvingLine S (ad 0) p) (fun S' => f_X12_halvingLine S' (ad 1) p) := by
  have hle := arN_le (v := v) p
  cases hB : vin p nf
  · refine Or.inr ⟨by simp [f_X11_halvingLine, C_reqF c, hB, clx_r], fun S' h => ⟨0, ?_⟩⟩
    simp [f_X12_halvingLine, lt_e, M_isFr (Mv_t h (ad 1) 2 0), cl_s, jn_n, if_bI, hB, M_throws1, uI_uI]
  · refine Or.inl ⟨if arN v p = 0 then -1 else (itr (hvS v p) 0 58 (-1, 0)).1, ?_, fun S' h => ?_⟩
    · simp only [f_X11_halvingLine, C_reqF c, hB, if_true, clx_l, lt_e, c.r, r_b0_1 c.t c.hb, C_halving c, cl_s]
    · have h1 := Mv_t h (ad 1) 2 0
      simp only [f_X12_halvingLine, lt_n, M_isFr h1, cl_n, jn_n, if_bI, hB, M_throws0, if_true, M_areaOf h1, mArea_N]
      by_cases h0 : arN v p = 0
      · rw [if_pos h0, h0]
        refine (lp_for (fun (k : Int32 → Int32 → Int32 → Option (Int32 × St)) i (s : Int32 × Int32) => k s.1 s.2 (nI i)) _ _ 0 (fun _ s => s) (fun s => some (s.1, uI S' (ad 1) 2 0)) (fun _ _ => True) ?_ (fun _ _ _ _ => trivial) ?_ 0 FU 0 (-1, 0) rfl trivial (show 0 < 6000 by omega)).trans ?_
        · intro k i s hi; omega
        · intro k s _
          rw [if_neg (show ¬ (58 : Int32) ≤ nI 0 by decide), if_pos (show nI 0 ≤ 0 by decide)]
        · rfl
      · rw [if_neg h0]
        refine lp_for0 (fun (k : Int32 → Int32 → Int32 → Option (Int32 × St)) i (s : Int32 × Int32) => k s.1 s.2 (nI i)) _ _ 58 (by decide) (hvS v p) (fun s => some (s.1, uI S' (ad 1) 2 0)) (fun _ _ => True) (-1, 0) trivial ?_ (fun _ _ _ _ => trivial) ?_
        · intro k i s hi _
          rw [if_neg (show ¬ (58 : Int32) ≤ nI i from nI_ge hi (by decide)), if_neg (nI_nle (by omega) (by omega))]
          have el : (if 29 ≤ nI i then (100 + nI i) - 28 else nI i + 1) = nI (lnN i) := by
            by_cases h29 : i < 29
            · rw [if_neg (show ¬ (29 : Int32) ≤ nI i from nI_ge h29 (by decide)), lnN, if_pos h29, nI_1]
            · rw [if_pos (show (29 : Int32) ≤ nI i from nI_le (show 29 ≤ i by omega) (by omega)), lnN, if_neg h29, ad100, show (28 : Int32) = nI 28 from rfl, nI_sub (show 28 ≤ 100 + i by omega), show 100 + i - 28 = 100 + (i - 28) by omega]
          have hk : ∀ (K : Int32 → Option (Int32 × St)), (if 29 ≤ nI i then K ((100 + nI i) - 28) else K (nI i + 1)) = K (nI (lnN i)) := fun K => by
            rw [← el]; by_cases h29 : 29 ≤ nI i <;> simp only [h29, if_true, if_false]
          rw [hk (fun x16 => cl (f_X12_cellsBefore (uI S' (ad 1) 2 0) (ad 1) p x16) fun v19 => cl (f_X12_size (uI S' (ad 1) 2 0) (nI (arN v p) - 2 * v19)) fun v20 => if s.1 = -1 then k x16 v20 (nI i + 1) else if v20 < s.2 then k x16 v20 (nI i + 1) else k s.1 s.2 (nI i + 1)), M_before h1 p hi]
          simp only [cl_n, M_sizeI, nI_1, hvS]
          by_cases h3 : s.1 = -1
          · simp only [h3, if_true]
          · simp only [h3, if_false]
            by_cases hx : dfI (nI (arN v p)) (nI (bfN v p i)) < s.2
            · simp only [hx, if_true]
            · simp only [hx, if_false]
        · intro k s _
          rw [if_pos (show (58 : Int32) ≤ nI 58 by decide)]
