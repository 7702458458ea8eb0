/-! the pure part: neighbours and distances -/
variable {S S' : St} {ad : Nat → Nat} {b d j k : Nat} {v : Nat → Int64} {np nf no mo : Nat}
def GI (v : Nat → Int64) : Prop := ∀ c, c < 900 → ∃ x : Int32, v (250 + c) = x.toInt64
theorem CV.gi (c : CV S ad b v np nf no mo) : GI v := fun q hq => ⟨_, c.G q hq⟩
def own (v : Nat → Int64) (p q u : Int32) : Bool := vin q 30 && vin u 30 && decide (v (250 + (30 * u.toNatClampNeg + q.toNatClampNeg)) = p.toInt64)
theorem M_owns (h : Mv S ad v np nf no mo) (hG : GI v) (p q u : Int32) : f_X12_owns S (ad 1) p q u = some (bI (own v p q u)) := by
  simp only [f_X12_owns, M_isCell, cl_s, jn_e, if_bI, own]
  cases hB : (vin q 30 && vin u 30)
  · simp [bI]
  · rw [Bool.and_eq_true] at hB
    obtain ⟨x, hx, rfl⟩ := vin_of (by decide) hB.1
    obtain ⟨y, hy, rfl⟩ := vin_of (by decide) hB.2
    obtain ⟨z, hz⟩ := hG (30 * y + x) (by omega)
    simp only [if_true, M_ownerOf h hx hy, cl_s, nI_clamp (show x < 2 ^ 31 by omega), nI_clamp (show y < 2 ^ 31 by omega), hz, tl_i, tl_eq, Bool.true_and]
    by_cases hc : z = p <;> simp [hc, bI]
theorem C_belongs (t : TR S ad) (hb : BB b) (hG : AXG S ad b v) (p q u : Int32) : f_X3_belongs S (ad (b + 2)) p q u = some (bI (own v p q u)) := by
  simp only [f_X3_belongs, C_contains, cl_s, jn_e, if_bI, own, lt_e, r_b2_0 t hb]
  cases hB : (vin q 30 && vin u 30)
  · simp [bI]
  · rw [Bool.and_eq_true] at hB
    obtain ⟨x, hx, rfl⟩ := vin_of (by decide) hB.1
    obtain ⟨y, hy, rfl⟩ := vin_of (by decide) hB.2
    rw [um30, nI_add, lb12 t hb (show y * 30 + x < 900 by omega)]
    simp only [if_true, nI_clamp (show x < 2 ^ 31 by omega), nI_clamp (show y < 2 ^ 31 by omega), hG (30 * y + x) (by omega), tl_eq, Bool.true_and, Nat.mul_comm y 30]
    by_cases hc : gI S (ad (b + 12)) (30 * y + x) = p <;> simp [hc, bI]
theorem if_k {β : Type} {B : Bool} {k : Int32 → Option β} : (if B = true then k 1 else k 0) = k (bI B) := by cases B <;> rfl
theorem if_k' {β : Type} {B : Bool} {k : Int32 → Option β} : (if bI B = 0 then k 0 else k 1) = k (bI B) := by cases B <;> rfl
def nbr (v : Nat → Int64) (p : Int32) (c : Nat) : Int32 := bI (own v p (nI (c % 30) - 1) (nI (c / 30))) + bI (own v p (nI (c % 30) + 1) (nI (c / 30))) + bI (own v p (nI (c % 30)) (nI (c / 30) - 1)) + bI (own v p (nI (c % 30)) (nI (c / 30) + 1))
theorem M_nbr (h : Mv S ad v np nf no mo) (hG : GI v) (p : Int32) {c : Nat} (hc : c < 900) : f_X12_neighboursOf S (ad 1) p (nI c - nI c / 30 * 30) (nI c / 30) = some (nbr v p c) := by
  rw [rm30 (by omega), dv30 (by omega)]
  simp only [f_X12_neighboursOf, M_owns h hG, cl_s, jn_e, nbr]
  generalize own v p (nI (c % 30) - 1) (nI (c / 30)) = B1
  generalize own v p (nI (c % 30) + 1) (nI (c / 30)) = B2
  generalize own v p (nI (c % 30)) (nI (c / 30) - 1) = B3
  generalize own v p (nI (c % 30)) (nI (c / 30) + 1) = B4
  cases B1 <;> cases B2 <;> cases B3 <;> cases B4 <;> rfl
theorem C_nbr (t : TR S ad) (hb : BB b) (hG : AXG S ad b v) (p : Int32) {c : Nat} (hc : c < 900) : f_X3_neighboursOf S (ad (b + 2)) p (nI c) = some (nbr v p c) := by
  simp only [f_X3_neighboursOf, lt_e]
  rw [rm30 (by omega), dv30 (by omega)]
  simp only [C_belongs t hb hG, cl_s, jn_e, nbr]
  generalize own v p (nI (c % 30) - 1) (nI (c / 30)) = B1
  generalize own v p (nI (c % 30) + 1) (nI (c / 30)) = B2
  generalize own v p (nI (c % 30)) (nI (c / 30) - 1) = B3
  generalize own v p (nI (c % 30)) (nI (c / 30) + 1) = B4
  cases B1 <;> cases B2 <;> cases B3 <;> cases B4 <;> rfl
def per (v : Nat → Int64) (p : Int32) : Int32 := itr (fun c s => if v (250 + c) = p.toInt64 then s + (4 - nbr v p c) else s) 0 900 0
def brd (v : Nat → Int64) (p q : Int32) : Int32 := itr (fun c s => if v (250 + c) = p.toInt64 then s + nbr v q c else s) 0 900 0
theorem C_outer (c : CV S ad b v np nf no mo) (p : Int32) : f_X3_outerSides S (ad (b + 2)) p = some (per v p) := by
  simp only [f_X3_outerSides, lt_e, jn_e, r_b2_0 c.t c.hb]
  refine lp_for0 (fun (k : Int32 → Int32 → Option Int32) i s => k s (nI i)) _ _ 900 (by decide) _ some (fun _ _ => True) 0 trivial ?_ (fun _ _ _ _ => trivial) ?_
  · intro k i s hi _
    simp only [ge900 hi, if_false, lb12 c.t c.hb hi, c.G i hi, tl_eq, C_nbr c.t c.hb c.G p hi, cl_s, nI_1]
    by_cases hc : gI S (ad (b + 12)) i = p <;> simp [hc]
  · intro k s _
    rw [if_pos le900]
theorem C_shared (c : CV S ad b v np nf no mo) (p q : Int32) : f_X3_sharedSides S (ad (b + 2)) p q = some (brd v p q) := by
  simp only [f_X3_sharedSides, lt_e, jn_e, r_b2_0 c.t c.hb]
  refine lp_for0 (fun (k : Int32 → Int32 → Option Int32) i s => k s (nI i)) _ _ 900 (by decide) _ some (fun _ _ => True) 0 trivial ?_ (fun _ _ _ _ => trivial) ?_
  · intro k i s hi _
    simp only [ge900 hi, if_false, lb12 c.t c.hb hi, c.G i hi, tl_eq, C_nbr c.t c.hb c.G q hi, cl_s, nI_1]
    by_cases hc : gI S (ad (b + 12)) i = p <;> simp [hc]
  · intro k s _
    rw [if_pos le900]
theorem Q_perimeter (c : CV S ad b v np nf no mo) (p : Int32) : QB ad v np nf no mo 1 (f_X11_perimeter S (ad 0) p) (fun S' => f_X12_perimeter S' (ad 1) p) := by
  cases hB : vin p nf
  · refine Or.inr ⟨by simp [f_X11_perimeter, C_reqF c, hB, clx_r], fun S' h => ⟨0, ?_⟩⟩
    simp [f_X12_perimeter, lt_e, M_isFr (Mv_t h (ad 1) 2 0), cl_s, jn_e, if_bI, hB, M_throws1, uI_uI]
  · refine Or.inl ⟨per v p, ?_, fun S' h => ?_⟩
    · simp only [f_X11_perimeter, C_reqF c, hB, if_true, clx_l, lt_e, c.r, r_b0_1 c.t c.hb, C_outer c, cl_s]
    · have h1 := Mv_t h (ad 1) 2 0
      simp only [f_X12_perimeter, lt_n, M_isFr h1, cl_n, jn_n, if_bI, hB, M_throws0, if_true, r_1_0 h1.1]
      refine lp_for0 (fun (k : Int32 → Int32 → Option (Int32 × St)) i s => k s (nI i)) _ _ 900 (by decide) _ (fun s => some (s, uI S' (ad 1) 2 0)) (fun _ _ => True) 0 trivial ?_ (fun _ _ _ _ => trivial) ?_
      · intro k i s hi _
        rw [if_neg (ge900 hi), ldSe h1 (ad250 i) (by omega), M_nbr h1 c.gi p hi]
        by_cases hc : v (250 + i) = p.toInt64 <;> simp only [hc, if_true, if_false, nI_1, cl_s]
      · intro k s _
        rw [if_pos le900]
theorem Q_border (c : CV S ad b v np nf no mo) (p q : Int32) : QB ad v np nf no mo 1 (f_X11_border S (ad 0) p q) (fun S' => f_X12_border S' (ad 1) p q) := by
  cases hB : vin p nf
  · refine Or.inr ⟨by simp [f_X11_border, C_reqF c, hB, clx_r], fun S' h => ⟨0, ?_⟩⟩
    simp [f_X12_border, lt_e, M_isFr (Mv_t h (ad 1) 2 0), cl_s, jn_e, if_bI, hB, M_throws1, uI_uI]
  · cases hC : vin q nf
    · refine Or.inr ⟨by simp [f_X11_border, C_reqF c, hB, hC, clx_l, clx_r], fun S' h => ⟨0, ?_⟩⟩
      simp [f_X12_border, lt_e, M_isFr (Mv_t h (ad 1) 2 0), cl_s, jn_e, if_bI, hB, hC, M_throws1, uI_uI]
    · by_cases hpq : p = q
      · refine Or.inl ⟨0, ?_, fun S' h => ?_⟩
        · simp [f_X11_border, C_reqF c, hB, hC, clx_l, hpq]
        · have h1 := Mv_t h (ad 1) 2 0
          simp [f_X12_border, lt_e, M_isFr h1, cl_s, jn_e, if_bI, hB, hC, M_throws0, hpq]
      · refine Or.inl ⟨brd v p q, ?_, fun S' h => ?_⟩
        · simp only [f_X11_border, C_reqF c, hB, hC, if_true, clx_l, lt_e, c.r, r_b0_1 c.t c.hb, C_shared c, cl_s, hpq, if_false]
        · have h1 := Mv_t h (ad 1) 2 0
          simp only [f_X12_border, lt_n, M_isFr h1, cl_n, jn_n, if_bI, hB, hC, M_throws0, if_true, r_1_0 h1.1, hpq, if_false]
          refine lp_for0 (fun (k : Int32 → Int32 → Option (Int32 × St)) i s => k s (nI i)) _ _ 900 (by decide) _ (fun s => some (s, uI S' (ad 1) 2 0)) (fun _ _ => True) 0 trivial ?_ (fun _ _ _ _ => trivial) ?_
          · intro k i s hi _
            rw [if_neg (ge900 hi), ldSe h1 (ad250 i) (by omega), M_nbr h1 c.gi q hi]
            by_cases hc : v (250 + i) = p.toInt64 <;> simp only [hc, if_true, if_false, nI_1, cl_s]
          · intro k s _
            rw [if_pos le900]
/-! distances -/
def dst (x y x' y' : Nat) : Nat := (x - x' + (x' - x)) + (y - y' + (y' - y))
theorem ab_nI {a b : Nat} (ha : a < 900) (hb : b < 900) : (if 0 ≤ (nI a - nI b) then (nI a - nI b) else 0 - (nI a - nI b)) = nI (a - b + (b - a)) := by
  by_cases h : b ≤ a
  · rw [nI_sub h, if_pos (nI_pos' (by omega)), show b - a = 0 by omega, Nat.add_zero]
  · rw [if_neg (Int32.not_le.mpr (nI_neg_lt (by omega) (by omega))), show a - b = 0 by omega, Nat.zero_add, ← nI_sub (show a ≤ b by omega), Int32.zero_sub, Int32.neg_sub]
theorem M_size {a b : Nat} (ha : a < 900) (hb : b < 900) (S : St) : f_X12_size S (nI a - nI b) = some (nI (a - b + (b - a))) := by
  rw [f_X12_size, ← ab_nI ha hb]
  by_cases h : 0 ≤ nI a - nI b
  · simp [h]
  · simp [h]
theorem M_apart {x y c : Nat} (hx : x < 30) (hy : y < 30) (hc : c < 900) (S : St) : f_X12_apart S (nI x) (nI y) (nI c) = some (nI (dst x y (c % 30) (c / 30))) := by
  simp only [f_X12_apart]
  rw [rm30 (by omega), dv30 (by omega), M_size (by omega) (by omega)]
  simp only [cl_s]
  rw [M_size (by omega) (by omega)]
  simp only [cl_s, nI_add, dst]
theorem C_steps {x y x' y' : Nat} (hx : x < 30) (hy : y < 30) (hx' : x' < 30) (hy' : y' < 30) (S : St) : f_X3_steps S (nI x) (nI y) (nI x') (nI y') = some (nI (dst x y x' y')) := by
  simp only [f_X3_steps, lt_e, ab_nI (show x < 900 by omega) (show x' < 900 by omega), ab_nI (show y < 900 by omega) (show y' < 900 by omega), nI_add, dst]
theorem dst_lt {x y x' y' : Nat} (hx : x < 30) (hy : y < 30) (hx' : x' < 30) (hy' : y' < 30) : dst x y x' y' < 59 := by unfold dst; omega
def ldS2 (v : Nat → Int64) (p : Int32) (x y c n : Nat) : Nat := if v (250 + c) = p.toInt64 then (if dst x y (c % 30) (c / 30) < n then dst x y (c % 30) (c / 30) else n) else n
def lds (v : Nat → Int64) (p : Int32) (x y : Nat) : Nat := itr (ldS2 v p x y) 0 900 1000
def nmo (n : Nat) : Int32 := if n = 1000 then -1 else nI n
theorem C_ldist (c : CV S ad b v np nf no mo) (p : Int32) {x y : Nat} (hx : x < 30) (hy : y < 30) : f_X3_leastDistance S (ad (b + 2)) p (nI x) (nI y) = some (nmo (lds v p x y)) := by
  simp only [f_X3_leastDistance, lt_e, jn_e, r_b2_0 c.t c.hb]
  have key := lp_for0 (fun (k : Int32 → Int32 → Option Int32) i (s : Nat) => k (nI s) (nI i)) (fun _ _ => none) (fun k6 x4 x5 => if 900 ≤ x5 then (if x4 = 1000 then (some (-1)) else (some x4)) else (ldI S (ad (b + 12)) x5 fun (v10 : Int32) => if v10 = p then (cl (f_X3_steps S (nI x) (nI y) (x5 - x5 / 30 * 30) (x5 / 30)) fun (v14 : Int32) => k6 (if v14 < x4 then v14 else x4) (x5 + 1)) else (k6 x4 (x5 + 1)))) 900 (by decide) (ldS2 v p x y) (fun s => some (nmo s)) (fun _ s => s ≤ 1000) 1000 (by decide) ?_ ?_ ?_
  · exact key
  · intro k i s hi hs
    simp only [ge900 hi, if_false, lb12 c.t c.hb hi]
    rw [rm30 (by omega), dv30 (by omega), C_steps hx hy (by omega) (by omega)]
    simp only [cl_s, ldS2, c.G i hi, tl_eq, nI_1]
    have := dst_lt hx hy (show i % 30 < 30 by omega) (show i / 30 < 30 by omega)
    by_cases hc : gI S (ad (b + 12)) i = p
    · simp only [hc, if_true]
      have e : (nI (dst x y (i % 30) (i / 30)) < nI s) = (dst x y (i % 30) (i / 30) < s) := by rw [nI_ltI (by omega) (by omega)]
      simp only [e]
      by_cases hd : dst x y (i % 30) (i / 30) < s <;> simp [hd]
    · simp [hc]
  · intro i s hi hs
    have := dst_lt hx hy (show i % 30 < 30 by omega) (show i / 30 < 30 by omega)
    simp only [ldS2]
    by_cases hc : v (250 + i) = p.toInt64
    · by_cases hd : dst x y (i % 30) (i / 30) < s
      · simp only [hc, if_true, hd]; omega
      · simp only [hc, if_true, hd, if_false]; exact hs
    · simp only [hc, if_false]; exact hs
  · intro k s hs
    rw [if_pos le900, nmo]
    have e : (nI s = 1000) = (s = 1000) := by rw [show (1000 : Int32) = nI 1000 from rfl, nI_eq (by omega) (by decide)]
    simp only [e]
    by_cases hd : s = 1000 <;> simp [hd]
theorem Q_distance (c : CV S ad b v np nf no mo) (p q u : Int32) : QA ad v np nf no mo (f_X11_distance S (ad 0) p q u) (fun S' => f_X12_distance S' (ad 1) p q u) := by
  cases hB : vin p nf
  · refine Or.inr (Or.inl ⟨by simp [f_X11_distance, C_reqF c, hB, clx_r], fun S' h => ⟨0, ?_⟩⟩)
    simp [f_X12_distance, lt_e, M_isFr (Mv_t h (ad 1) 2 0), cl_s, jn_e, if_bI, hB, M_throws1, uI_uI]
  · cases hC : (vin q 30 && vin u 30)
    · refine Or.inr (Or.inr ⟨by simp [f_X11_distance, C_reqF c, hB, clx_l, C_contains, C_reqA, hC, cl_s, clx_r], fun S' h => ⟨0, ?_⟩⟩)
      simp [f_X12_distance, lt_e, M_isFr (Mv_t h (ad 1) 2 0), cl_s, jn_e, if_bI, hB, M_isCell, hC, M_throws0, M_throws1, uI_uI]
    · have hC' := hC
      rw [Bool.and_eq_true] at hC'
      obtain ⟨x, hx, rfl⟩ := vin_of (by decide) hC'.1
      obtain ⟨y, hy, rfl⟩ := vin_of (by decide) hC'.2
      refine Or.inl ⟨nmo (lds v p x y), ?_, fun S' h => ?_⟩
      · simp only [f_X11_distance, C_reqF c, hB, if_true, clx_l, C_contains, C_reqA, hC, lt_e, c.r, r_b0_1 c.t c.hb, C_ldist c p hx hy, cl_s]
      · have h1 := Mv_t h (ad 1) 2 0
        simp only [f_X12_distance, lt_n, M_isFr h1, cl_n, jn_n, if_bI, hB, M_isCell, hC, M_throws0, if_true, r_1_0 h1.1]
        refine lp_for0 (fun (k : Int32 → Int32 → Option (Int32 × St)) i (s : Nat) => k (nmo s) (nI i)) _ _ 900 (by decide) (ldS2 v p x y) (fun s => some (nmo s, uI S' (ad 1) 2 0)) (fun _ s => s ≤ 1000) 1000 (by decide) ?_ ?_ ?_
        · intro k i s hi hs
          rw [if_neg (ge900 hi), ldSe h1 (ad250 i) (by omega), M_apart hx hy hi]
          have hd := dst_lt hx hy (show i % 30 < 30 by omega) (show i / 30 < 30 by omega)
          simp only [cl_s, ldS2, nI_1]
          by_cases hc : v (250 + i) = p.toInt64
          · simp only [hc, if_true, nmo]
            by_cases h0 : s = 1000
            · have e1 : dst x y (i % 30) (i / 30) < 1000 := by omega
              have e2 : dst x y (i % 30) (i / 30) ≠ 1000 := by omega
              simp only [h0, if_true, e1, e2, if_false]
            · have e1 : ¬ nI s = -1 := by
                intro e
                have : (nI s).toInt = (-1 : Int32).toInt := by rw [e]
                rw [nI_toInt (by omega), show (-1 : Int32).toInt = -1 from rfl] at this
                omega
              have e2 : (nI s ≤ nI (dst x y (i % 30) (i / 30))) = ¬ (dst x y (i % 30) (i / 30) < s) := by rw [nI_leI (by omega) (by omega)]; exact propext (by omega)
              simp only [h0, if_false, e1, e2]
              by_cases h3 : dst x y (i % 30) (i / 30) < s
              · have e3 : dst x y (i % 30) (i / 30) ≠ 1000 := by omega
                simp only [h3, not_true, if_true, if_false, e3]
              · simp only [h3, not_false_iff, if_true, if_false, h0]
          · simp only [hc, if_false]
        · intro i s hi hs
          have := dst_lt hx hy (show i % 30 < 30 by omega) (show i / 30 < 30 by omega)
          simp only [ldS2]
          by_cases hc : v (250 + i) = p.toInt64
          · by_cases hd : dst x y (i % 30) (i / 30) < s
            · simp only [hc, if_true, hd]; omega
            · simp only [hc, if_true, hd, if_false]; exact hs
          · simp only [hc, if_false]; exact hs
        · intro k s hs
          rw [if_pos le900]
