/-! the pure part: an area's statement -/
variable {S S0 S1 S2 S' S'' S3 X Y : St} {ad : Nat → Nat} {b d j k : Nat} {v v0 v' v1 v2 u u' w : Nat → Int64} {np nf no mo no' mo' x y : Nat}
def ayI (S : St) (p0 : Nat) (p1 p4 x1 : Int32) (K : Option Int32) (k7 : Int32 → Option Int32) (x6 : Int32) : Option Int32 := if p4 ≤ x6 then (K) else (cl (f_X3_ownerAt S p0 x6 x1) fun (v9 : Int32) => jn (κ := Option (Int32)) (k7 (x6 + 1)) fun k10 => if v9 = (-1) then (k10) else (if v9 = p1 then (k10) else (some 1)))
def ayO (S : St) (p0 : Nat) (p1 p2 p4 p5 : Int32) (k2 : Int32 → Option Int32) (x1 : Int32) : Option Int32 := if p5 ≤ x1 then (some 0) else (jn (κ := Option (Int32)) (k2 (x1 + 1)) fun k4 => lp (κ := Int32 → Option (Int32)) (fun _ => none) (fun k7 x6 => if p4 ≤ x6 then (k4) else (cl (f_X3_ownerAt S p0 x6 x1) fun (v9 : Int32) => jn (κ := Option (Int32)) (k7 (x6 + 1)) fun k10 => if v9 = (-1) then (k10) else (if v9 = p1 then (k10) else (some 1)))) FU p2)
theorem ayE (S : St) (p0 : Nat) (p1 p2 p3 p4 p5 : Int32) : f_X3_anyOfOthers S p0 p1 p2 p3 p4 p5 = lp (κ := Int32 → Option (Int32)) (fun _ => none) (ayO S p0 p1 p2 p4 p5) FU p3 := by
  unfold f_X3_anyOfOthers; rfl
theorem ayO_e (S : St) (p0 : Nat) (p1 p2 p4 p5 : Int32) (k2 : Int32 → Option Int32) (x1 : Int32) (h : ¬ p5 ≤ x1) : ayO S p0 p1 p2 p4 p5 k2 x1 = lp (κ := Int32 → Option (Int32)) (fun _ => none) (ayI S p0 p1 p4 x1 (k2 (x1 + 1))) FU p2 := by
  unfold ayO
  rw [if_neg h]
  exact jn_n _ _
def bdc (S : St) (ad : Nat → Nat) (d : Nat) (w : Int32) (c : Nat) : Prop := gI S (ad (d + 12)) c ≠ -1 ∧ gI S (ad (d + 12)) c ≠ w
def ayG (S : St) (ad : Nat → Nat) (d : Nat) (w : Int32) (x1 y1 m n : Nat) (r : Option Int32) : Prop := ∃ B : Bool, r = some (bI B) ∧ (B = true ↔ ∃ y x, y < n ∧ x < m ∧ bdc S ad d w (30 * (y1 + y) + (x1 + x)))
theorem win_ex {x1 y1 m n : Nat} (hx : x1 + m ≤ 30) (hy : y1 + n ≤ 30) (Q : Nat → Prop) : (∃ y x, y < n ∧ x < m ∧ Q (30 * (y1 + y) + (x1 + x))) ↔ ∃ c, c < 900 ∧ win x1 y1 m n c = true ∧ Q c := by
  constructor
  · rintro ⟨y, x, h1, h2, h3⟩
    refine ⟨30 * (y1 + y) + (x1 + x), by omega, ?_, h3⟩
    rw [win, decide_eq_true_eq, show (30 * (y1 + y) + (x1 + x)) % 30 = x1 + x by omega, show (30 * (y1 + y) + (x1 + x)) / 30 = y1 + y by omega]
    omega
  · rintro ⟨c, h1, h2, h3⟩
    rw [win, decide_eq_true_eq] at h2
    refine ⟨c / 30 - y1, c % 30 - x1, by omega, by omega, ?_⟩
    rw [show 30 * (y1 + (c / 30 - y1)) + (x1 + (c % 30 - x1)) = c by omega]; exact h3
theorem G_any (t : TR S ad) (hb : BB d) (w : Int32) {x1 y1 m n : Nat} (hx : x1 + m ≤ 30) (hy : y1 + n ≤ 30) : ∃ B : Bool, f_X3_anyOfOthers S (ad (d + 2)) w (nI x1) (nI y1) (nI (x1 + m)) (nI (y1 + n)) = some (bI B) ∧ (B = true ↔ ∃ c, c < 900 ∧ win x1 y1 m n c = true ∧ bdc S ad d w c) := by
  rw [ayE]
  have main : ayG S ad d w x1 y1 m n (lp (κ := Int32 → Option (Int32)) (fun _ => none) (ayO S (ad (d + 2)) w (nI x1) (nI (x1 + m)) (nI (y1 + n))) FU (nI y1)) := by
    refine lp_ex2 (fun (k : Int32 → Option Int32) i (_ : Unit) => k (nI (y1 + i))) (fun _ => none) (ayO S (ad (d + 2)) w (nI x1) (nI (x1 + m)) (nI (y1 + n))) n (fun i _ => ∀ y x, y < i → x < m → ¬ bdc S ad d w (30 * (y1 + y) + (x1 + x))) (ayG S ad d w x1 y1 m n) ?_ ?_ n FU 0 () (by omega) (fun y x h => absurd h (by omega)) (show n < 6000 by omega)
    · intro k i _ hi hJ
      have h1 : ¬ nI (y1 + n) ≤ nI (y1 + i) := by rw [nI_leI (by omega) (by omega)]; omega
      have e0 : ayO S (ad (d + 2)) w (nI x1) (nI (x1 + m)) (nI (y1 + n)) k (nI (y1 + i)) = lp (κ := Int32 → Option (Int32)) (fun _ => none) (ayI S (ad (d + 2)) w (nI (x1 + m)) (nI (y1 + i)) (k (nI (y1 + (i + 1))))) FU (nI x1) := by
        rw [ayO_e _ _ _ _ _ _ _ _ h1, da1, Nat.add_assoc]
      have key : ayG S ad d w x1 y1 m n (ayO S (ad (d + 2)) w (nI x1) (nI (x1 + m)) (nI (y1 + n)) k (nI (y1 + i))) ∨ ((∀ x, x < m → ¬ bdc S ad d w (30 * (y1 + i) + (x1 + x))) ∧ ayO S (ad (d + 2)) w (nI x1) (nI (x1 + m)) (nI (y1 + n)) k (nI (y1 + i)) = k (nI (y1 + (i + 1)))) := by
        rw [e0]
        refine lp_ex2 (fun (k' : Int32 → Option Int32) j (_ : Unit) => k' (nI (x1 + j))) (fun _ => none) (ayI S (ad (d + 2)) w (nI (x1 + m)) (nI (y1 + i)) (k (nI (y1 + (i + 1))))) m (fun j _ => ∀ x, x < j → ¬ bdc S ad d w (30 * (y1 + i) + (x1 + x))) (fun r => ayG S ad d w x1 y1 m n r ∨ ((∀ x, x < m → ¬ bdc S ad d w (30 * (y1 + i) + (x1 + x))) ∧ r = k (nI (y1 + (i + 1))))) ?_ ?_ m FU 0 () (by omega) (fun x h => absurd h (by omega)) (show m < 6000 by omega)
        · intro k' j _ hj hJ'
          have h2 : ¬ nI (x1 + m) ≤ nI (x1 + j) := by rw [nI_leI (by omega) (by omega)]; omega
          have ow := C_ownerAt t hb (show x1 + j < 30 by omega) (show y1 + i < 30 by omega)
          have e1 : ayI S (ad (d + 2)) w (nI (x1 + m)) (nI (y1 + i)) (k (nI (y1 + (i + 1)))) k' (nI (x1 + j)) = if gI S (ad (d + 12)) (30 * (y1 + i) + (x1 + j)) = -1 then k' (nI (x1 + (j + 1))) else if gI S (ad (d + 12)) (30 * (y1 + i) + (x1 + j)) = w then k' (nI (x1 + (j + 1))) else some 1 := by
            simp only [ayI, h2, if_false, ow, cl_n, jn_n, da1, Nat.add_assoc]
          by_cases b1 : gI S (ad (d + 12)) (30 * (y1 + i) + (x1 + j)) = -1
          · right
            refine ⟨(), fun x hx' => ?_, ?_⟩
            · by_cases ex : x = j
              · subst ex; exact fun z => z.1 b1
              · exact hJ' x (by omega)
            · exact e1.trans (if_pos b1)
          · by_cases b2 : gI S (ad (d + 12)) (30 * (y1 + i) + (x1 + j)) = w
            · right
              refine ⟨(), fun x hx' => ?_, ?_⟩
              · by_cases ex : x = j
                · subst ex; exact fun z => z.2 b2
                · exact hJ' x (by omega)
              · exact e1.trans ((if_neg b1).trans (if_pos b2))
            · left
              exact Or.inl ⟨true, e1.trans ((if_neg b1).trans (if_neg b2)), fun _ => ⟨i, j, hi, hj, b1, b2⟩, fun _ => rfl⟩
        · intro k' _ hJ'
          have h2 : nI (x1 + m) ≤ nI (x1 + m) := by rw [nI_leI (by omega) (by omega)]; omega
          refine Or.inr ⟨hJ', ?_⟩
          show ayI S (ad (d + 2)) w (nI (x1 + m)) (nI (y1 + i)) (k (nI (y1 + (i + 1)))) k' (nI (x1 + m)) = _
          unfold ayI
          rw [if_pos h2]
      rcases key with z | ⟨z1, z2⟩
      · exact Or.inl z
      · refine Or.inr ⟨(), fun y x hy' hx' => ?_, z2⟩
        by_cases ey : y = i
        · subst ey; exact z1 x hx'
        · exact hJ y x (by omega) hx'
    · intro k _ hJ
      have h1 : nI (y1 + n) ≤ nI (y1 + n) := by rw [nI_leI (by omega) (by omega)]; omega
      refine ⟨false, ?_, fun z => absurd z (by decide), fun ⟨y, x, h1, h2, h3⟩ => absurd h3 (hJ y x h1 h2)⟩
      show ayO S (ad (d + 2)) w (nI x1) (nI (x1 + m)) (nI (y1 + n)) k (nI (y1 + n)) = _
      unfold ayO
      rw [if_pos h1]; rfl
  obtain ⟨B, h1, h2⟩ := main
  exact ⟨B, h1, h2.trans (win_ex hx hy (bdc S ad d w))⟩
theorem M_oth (t : TR X ad) (hv : gJ X (ad 3) = dV v u) (w : Int32) {x1 y1 m n : Nat} (hx : x1 + m ≤ 30) (hy : y1 + n ≤ 30) : ∃ B : Bool, f_X12_hasOther X (ad 1) w (nI x1) (nI y1) (nI (x1 + m)) (nI (y1 + n)) = some (bI B) ∧ (B = true ↔ ∃ c, c < 900 ∧ win x1 y1 m n c = true ∧ u (250 + c) ≠ -1 ∧ u (250 + c) ≠ w.toInt64) := by
  unfold f_X12_hasOther
  refine lp_ex2 (fun (k : Int32 → Option Int32) i (_ : Unit) => k (nI i)) _ _ 900 (fun i _ => ∀ c, c < i → ¬ (win x1 y1 m n c = true ∧ u (250 + c) ≠ -1 ∧ u (250 + c) ≠ w.toInt64)) (fun r => ∃ B : Bool, r = some (bI B) ∧ (B = true ↔ ∃ c, c < 900 ∧ win x1 y1 m n c = true ∧ u (250 + c) ≠ -1 ∧ u (250 + c) ≠ w.toInt64)) ?_ ?_ 900 FU 0 () (by omega) (fun c h => absurd h (by omega)) (show 900 < 6000 by omega)
  · intro k i _ hi hJ
    have ic : (15412 : Int32) + nI i = nI (15162 + (250 + i)) := by rw [show (15412 : Int32) = nI 15412 from rfl, nI_add, show 15412 + i = 15162 + (250 + i) by omega]
    have lc : ∀ (K : Int64 → Option Int32), ldJ X (ad 3) (15412 + nI i) K = K (u (250 + i)) := fun K => ld3d t hv ic (by omega)
    have nx : ∀ (hb : ¬ (win x1 y1 m n i = true ∧ u (250 + i) ≠ -1 ∧ u (250 + i) ≠ w.toInt64)), ∀ c, c < i + 1 → ¬ (win x1 y1 m n c = true ∧ u (250 + c) ≠ -1 ∧ u (250 + c) ≠ w.toInt64) := fun hb c hc => by
      by_cases e : c = i
      · subst e; exact hb
      · exact hJ c (by omega)
    simp only [ge900 hi, if_false, M_isWithin X hi hx hy, cl_n, jn_n, lt_n, r_1_0 t, lc, da1, if_bI]
    cases hw : win x1 y1 m n i with
    | false =>
      right
      exact ⟨(), nx (fun z => by rw [hw] at z; exact absurd z.1 (by decide)), by simp only [Bool.false_eq_true, if_false]⟩
    | true =>
      simp only [if_true]
      by_cases b1 : u (250 + i) = -1
      · right
        exact ⟨(), nx (fun z => z.2.1 b1), by rw [if_pos b1]⟩
      · by_cases b2 : u (250 + i) = w.toInt64
        · right
          exact ⟨(), nx (fun z => z.2.2 b2), by rw [if_neg b1, if_pos b2]⟩
        · left
          exact ⟨true, by rw [if_neg b1, if_neg b2]; rfl, fun _ => ⟨i, hi, hw, b1, b2⟩, fun _ => rfl⟩
  · intro k _ hJ
    simp only [le900, if_true]
    exact ⟨false, rfl, fun z => absurd z (by decide), fun ⟨c, h1, h2⟩ => absurd h2 (hJ c h1)⟩
/-- a draft block with an area of f -/
def arV (u : Nat → Int64) (P : Nat → Bool) (f N : Nat) : Nat → Int64 := fun i => if (250 ≤ i ∧ i < 250 + N) ∧ P (i - 250) = true then lN f else u i
theorem arV_0 {P : Nat → Bool} {f : Nat} : arV u P f 0 = u := by
  funext i; unfold arV; rw [if_neg (by omega)]
theorem arV_f {P : Nat → Bool} {f N : Nat} (h : P N = false) : arV u P f (N + 1) = arV u P f N := by
  funext i
  unfold arV
  by_cases e : i = 250 + N
  · subst e
    rw [show 250 + N - 250 = N by omega, h, if_neg (fun z => absurd z.2 (by decide)), if_neg (fun z => absurd z.2 (by decide))]
  · by_cases h2 : (250 ≤ i ∧ i < 250 + N) ∧ P (i - 250) = true
    · rw [if_pos h2, if_pos ⟨by omega, h2.2⟩]
    · rw [if_neg h2, if_neg (fun z => h2 ⟨by omega, z.2⟩)]
theorem arV_t {P : Nat → Bool} {f N : Nat} (h : P N = true) : udt (arV u P f N) (250 + N) (lN f) = arV u P f (N + 1) := by
  funext i
  by_cases e : i = 250 + N
  · subst e
    rw [udt_e]
    unfold arV
    rw [show 250 + N - 250 = N by omega, if_pos ⟨by omega, h⟩]
  · rw [udt_n e]
    unfold arV
    by_cases h2 : (250 ≤ i ∧ i < 250 + N) ∧ P (i - 250) = true
    · rw [if_pos h2, if_pos ⟨by omega, h2.2⟩]
    · rw [if_neg h2, if_neg (fun z => h2 ⟨by omega, z.2⟩)]
def arB (p0 : Nat) (f v4 v6 v8 : Int32) (K : St → Option (Int32 × St)) (k19 : Int32 → St → Option (Int32 × St)) (x17 : Int32) (S18 : St) : Option (Int32 × St) := if 900 ≤ x17 then (K S18) else (lt (gI S18 p0 15) fun (v21 : Int32) => cl (f_X12_isWithin S18 x17 v4 v6 v8 v21) fun (v22 : Int32) => jn (κ := St → Option (Int32 × St)) (fun S23 => k19 (x17 + 1) S23) fun k24 => if v22 = 0 then (k24 S18) else (lt (gR S18 p0 0) fun (a26 : Nat) => stJ S18 a26 (15412 + x17) (Int32.toInt64 f) fun (S28 : St) => k24 S28))
theorem M_fill {B : Nat → Int32} {n e f x1 y1 m l : Nat} (rd : RD X Y ad B n e v u) (hf : f < 8) (hx : x1 + m ≤ 30) (hy : y1 + l ≤ 30) (g15 : gI Y (ad 1) 15 = nI (y1 + l)) (K : St → Option (Int32 × St)) : ∃ Z, lp (κ := Int32 → St → Option (Int32 × St)) (fun _ _ => none) (arB (ad 1) (nI f) (nI x1) (nI y1) (nI (x1 + m)) K) FU 0 Y = K Z ∧ RD X Z ad B n e v (arV u (win x1 y1 m l) f 900) := by
  refine lp_ex (fun (k : Int32 → St → Option (Int32 × St)) i (Z : St) => k (nI i) Z) (fun _ _ => none) (arB (ad 1) (nI f) (nI x1) (nI y1) (nI (x1 + m)) K) 900 (fun i Z => RD X Z ad B n e v (arV u (win x1 y1 m l) f i) ∧ gI Z (ad 1) 15 = nI (y1 + l)) (fun r => ∃ Z, r = K Z ∧ RD X Z ad B n e v (arV u (win x1 y1 m l) f 900)) ?_ ?_ 900 FU 0 Y (by omega) ⟨by rw [arV_0]; exact rd, g15⟩ (show 900 < 6000 by omega)
  · intro k i Z hi hJ
    have tZ := hJ.1.1.1.1
    have ic : (15412 : Int32) + nI i = nI (15162 + (250 + i)) := by rw [show (15412 : Int32) = nI 15412 from rfl, nI_add, show 15412 + i = 15162 + (250 + i) by omega]
    have sc : ∀ (K : St → Option (Int32 × St)), stJ Z (ad 3) (15412 + nI i) (lN f) K = K (uJ Z (ad 3) (15162 + (250 + i)) (lN f)) := fun K => st3d tZ ic (by omega)
    have f0 : (nI f).toInt64 = lN f := nI_l (by omega)
    have e0 : arB (ad 1) (nI f) (nI x1) (nI y1) (nI (x1 + m)) K k (nI i) Z = if win x1 y1 m l i = true then k (nI (i + 1)) (uJ Z (ad 3) (15162 + (250 + i)) (lN f)) else k (nI (i + 1)) Z := by
      simp only [arB, ge900 hi, if_false, lt_n, hJ.2, M_isWithin Z hi hx hy, cl_n, jn_n, r_1_0 tZ, f0, sc, da1, if_bI]
    cases hw : win x1 y1 m l i with
    | false =>
      refine ⟨Z, ⟨by rw [arV_f hw]; exact hJ.1, hJ.2⟩, ?_⟩
      exact e0.trans (if_neg (by rw [hw]; decide))
    | true =>
      refine ⟨uJ Z (ad 3) (15162 + (250 + i)) (lN f), ⟨by rw [← arV_t hw]; exact RD_st hJ.1 (by omega), hJ.2⟩, ?_⟩
      exact e0.trans (if_pos hw)
  · intro k Z hJ
    refine ⟨Z, ?_, hJ.1⟩
    show arB (ad 1) (nI f) (nI x1) (nI y1) (nI (x1 + m)) K k (nI 900) Z = _
    unfold arB
    rw [if_pos le900]
theorem DV_ar {f : Nat} {P : Nat → Bool} (c : DV S ad d u np nf no) (hf : f < nf) (hB : ¬ ∃ c, c < 900 ∧ P c = true ∧ bdc S ad d (nI f) c) : DV (qI S (ad (d + 12)) (mvG P (-1) (nI f) 900 (gI S (ad (d + 12))))) ad d (arV u P f 900) np nf no := by
  have h8 := c.hf
  have h4 := c.hp
  have hd := c.hd
  have ho := c.ho
  have kk : KCx S (qI S (ad (d + 12)) (mvG P (-1) (nI f) 900 (gI S (ad (d + 12))))) ad (fun p => p = d + 12) := KCx_qI c.t rfl
  have A : ∀ q, q ≠ 12 → Ag S (qI S (ad (d + 12)) (mvG P (-1) (nI f) 900 (gI S (ad (d + 12))))) ad (d + q) := fun q hq => kk.2 _ (fun (z : d + q = d + 12) => by omega)
  have hv : ∀ i, (i < 250 ∨ 1150 ≤ i) → arV u P f 900 i = u i := fun i h => by unfold arV; rw [if_neg (by omega)]
  have f0 : (nI f).toInt64 = lN f := nI_l (by omega)
  have cell : ∀ i, i < 900 → arV u P f 900 (250 + i) = (mvG P (-1) (nI f) 900 (gI S (ad (d + 12))) i).toInt64 := fun i hi => by
    unfold arV mvG
    rw [show 250 + i - 250 = i by omega, c.G i hi]
    by_cases hp : P i = true
    · rw [if_pos ⟨by omega, hp⟩]
      by_cases g1 : gI S (ad (d + 12)) i = -1
      · rw [if_pos ⟨hi, hp, g1⟩, f0]
      · rw [if_neg (fun z => g1 z.2.2), ← f0, tl_eq]
        exact Classical.byContradiction fun z => hB ⟨i, hi, hp, g1, fun y => z y.symm⟩
    · rw [if_neg (fun z => hp z.2), if_neg (fun z => hp z.2.1)]
  have keep : ∀ i g, i < 900 → g < nf → u (250 + i) = lN g → arV u P f 900 (250 + i) = lN g := fun i g hi hg e => by
    unfold arV
    rw [show 250 + i - 250 = i by omega]
    by_cases hp : P i = true
    · rw [if_pos ⟨by omega, hp⟩]
      have e1 : gI S (ad (d + 12)) i = nI g := by
        have := c.G i hi
        rw [e, ← nI_l (by omega), tl_eq] at this
        exact this.symm
      have : nI g = nI f := Classical.byContradiction fun z => hB ⟨i, hi, hp, by rw [e1]; exact nI_m1 (by omega), by rw [e1]; exact z⟩
      rw [nI_inj (by omega) (by omega) this]
    · rw [if_neg (fun z => hp z.2)]; exact e
  obtain ⟨a1, ap, af, ao, ac, ad0, as, ar⟩ := c.w
  obtain ⟨z1, z2, z3, z4⟩ := c.Z
  refine ⟨⟨kk.t c.t, trivial, by rw [hv 1 (by omega)]; exact c.u1, by rw [hv 2 (by omega)]; exact c.u2, by rw [hv 3 (by omega)]; exact c.u3, by rw [hv 0 (by omega)]; exact c.u0, h4, h8, ho, by omega⟩, hd, ⟨?_, fun q hq => by rw [hv _ (by omega)]; exact ap q hq, fun g hg => ?_, fun o hoo => ?_, fun i hi => ?_, fun i hi => by rw [hv _ (by omega)]; exact ad0 i hi, ?_, fun k g hk hg => absurd hk (by omega)⟩, WS_w (fun f q hf hq => hv _ (by omega)) (hv 11 (by omega)) c.ws, AXT_w (fun i hi => hv i (by omega)) h4 (AXT_c (fun q h => A q (by omega)) c.T), fun i hi => by rw [gI_qI, if_pos rfl]; exact cell i hi, AXO_w (fun i hi => hv i (by omega)) ho (AXO_c (fun q h => A q (by omega)) c.O), AXN_w (fun f hf => hv _ (by omega)) (AXN_c (fun q h => A q (by omega)) c.N), AXF_w (fun f q hf h => hv _ (by omega)) (AXF_c (fun q h => A q (by omega)) c.F), AXR_w (fun f q hf h => hv _ (by omega)) (AXR_c (fun q h => A q (by omega)) c.R), AXB_w (fun i hi => hv i (by omega)) (fun f q hf h => hv _ (by omega)) h8 (by omega) (AXB_c (fun q h => A q (by omega)) c.B), ZR_c (fun q h => A q (by omega)) ⟨fun f q h1 h2 h3 => by rw [hv _ (by omega)]; exact z1 f q h1 h2 h3, fun p q h1 h2 h3 => by rw [hv _ (by omega)]; exact z2 p q h1 h2 h3, fun o h => by rw [hv _ (by omega)]; exact z3 o h, z4⟩⟩
  · rw [hv 4 (by omega), hv 5 (by omega), hv 6 (by omega), hv 7 (by omega), hv 8 (by omega), hv 9 (by omega)]; exact a1
  · rw [hv _ (by omega), hv _ (by omega), hv _ (by omega), hv _ (by omega)]; exact af g hg
  · obtain ⟨⟨x', y', hx', hy', e1, e2, e3⟩, s, hs, e4⟩ := ao o hoo
    rw [hv (186 + 4 * o + 0) (by omega), hv (186 + 4 * o + 1) (by omega), hv (186 + 4 * o + 2) (by omega), hv (186 + 4 * o + 3) (by omega)]
    exact ⟨⟨x', y', hx', hy', e1, e2, e3.imp id (fun ⟨g, g1, g2, g3⟩ => ⟨g, g1, g2, keep _ g (by omega) g1 g3⟩)⟩, s, hs, e4⟩
  · rcases ac i hi with z | ⟨g, g1, g2⟩
    · unfold arV
      by_cases hp : (250 ≤ 250 + i ∧ 250 + i < 250 + 900) ∧ P (250 + i - 250) = true
      · rw [if_pos hp]; exact Or.inr ⟨f, hf, rfl⟩
      · rw [if_neg hp]; exact Or.inl z
    · exact Or.inr ⟨g, g1, keep i g hi g1 g2⟩
  · rw [hv 11 (by omega), hv 12 (by omega), hv 13 (by omega)]; exact as
/-- the reference reads an area -/
theorem R_area {B : Nat → Int32} {n e e1 e2 e3 e4 e5 e6 x1 y1 m l : Nat} (r : RS X ad B n e) (hv : gJ X (ad 3) = dV v u) (hk : tkK B n e ≠ 5) (he1 : e1 = tkR B n e) (he2 : e2 = tkR B n e1) (he3 : e3 = tkR B n e2) (he4 : e4 = tkR B n e3) (he5 : e5 = tkR B n e4) (he6 : e6 = tkR B n e5) (hx1 : x1 = vNum B n e2 0 29) (hy1 : y1 = vNum B n e3 0 29) (hx2 : x1 + m = vNum B n e4 (x1 + 1) 30) (hy2 : y1 + l = vNum B n e5 (y1 + 1) 30) (hx : x1 + m ≤ 30) (hy : y1 + l ≤ 30) (h8 : nf ≤ 8) (u2 : u 2 = lN nf) : (∃ f, f < nf ∧ nmX B n e1 u nf = nI f ∧ qor (qor (qor (qor (eNm B n e1 u nf true) (eNum B n e2 0 29)) (eNum B n e3 0 29)) (eNum B n e4 (x1 + 1) 30)) (eNum B n e5 (y1 + 1) 30) = none ∧ ∃ Bo : Bool, (Bo = true ↔ ∃ c, c < 900 ∧ win x1 y1 m l c = true ∧ u (250 + c) ≠ -1 ∧ u (250 + c) ≠ (nI f).toInt64) ∧ (Bo = false → ∃ X1, RD X X1 ad B n e6 v (arV u (win x1 y1 m l) f 900) ∧ ∀ r X2, f_X12_readEnd X1 (ad 1) = some (r, X2) → r = 0 ∨ r = 1 → f_X12_readArea X (ad 1) = some (r, X2)) ∧ (Bo = true → ∃ X', f_X12_readArea X (ad 1) = some (0, X') ∧ RFd X X' ad v 5 (tkS B n e5))) ∨ (∃ c p, qor (qor (qor (qor (eNm B n e1 u nf true) (eNum B n e2 0 29)) (eNum B n e3 0 29)) (eNum B n e4 (x1 + 1) 30)) (eNum B n e5 (y1 + 1) 30) = some (c, p) ∧ ∃ X', f_X12_readArea X (ad 1) = some (0, X') ∧ RFd X X' ad v c p) := by
  obtain ⟨X1, m1, r1, x1', -⟩ := R_ad r hk
  rw [← he1] at r1
  have rd1 := RD_mk r1 x1' hv
  rcases R_nmD r1 rd1.2.2 u2 h8 with ⟨z1, f, X2, hf, hnm, m2, r2, x2⟩ | ⟨cc, z1, -, X2, m2, f2⟩
  · rw [← he2] at r2
    have rd2 := rd1.tr (RD_mk r2 x2 rd1.2.2)
    have fm : ¬ nI f = -1 := nI_m1 (by omega)
    rcases R_num r2 (a := 0) (by omega) 29 (i := 0) rfl with ⟨z2, X3, m3, r3, x3, g3⟩ | ⟨cc, z2, -, X3, m3, f3⟩
    · rw [← he3] at r3
      rw [← hx1] at g3
      have rd3 := rd2.tr (RD_mk r3 x3 rd2.2.2)
      rcases R_num r3 (a := 0) (by omega) 29 (i := 0) rfl with ⟨z3, X4, m4, r4, x4, g4⟩ | ⟨cc, z3, -, X4, m4, f4⟩
      · rw [← he4] at r4
        rw [← hy1] at g4
        have rd4 := rd3.tr (RD_mk r4 x4 rd3.2.2)
        rcases R_num r4 (a := x1 + 1) (by omega) 30 (i := nI x1 + 1) (da1 x1) with ⟨z4, X5, m5, r5, x5, g5⟩ | ⟨cc, z4, -, X5, m5, f5⟩
        · rw [← he5] at r5
          rw [← hx2] at g5
          have rd5 := rd4.tr (RD_mk r5 x5 rd4.2.2)
          have h14 : gI X5 (ad 1) 14 = nI (tkS B n e5) := r5.2.2.1
          rcases R_num r5 (a := y1 + 1) (by omega) 30 (i := nI y1 + 1) (da1 y1) with ⟨z5, X6, m6, r6, x6, g6⟩ | ⟨cc, z5, -, X6, m6, f6⟩
          · rw [← he6] at r6
            rw [← hy2] at g6
            have rd6 := rd5.tr (RD_mk r6 x6 rd5.2.2)
            have t6 := r6.1.1
            obtain ⟨Bo, ho, hB⟩ := M_oth t6 rd6.2.2 (nI f) hx hy
            have q0 : qor (qor (qor (qor (eNm B n e1 u nf true) (eNum B n e2 0 29)) (eNum B n e3 0 29)) (eNum B n e4 (x1 + 1) 30)) (eNum B n e5 (y1 + 1) 30) = none := by rw [z1, z2, z3, z4, z5]; rfl
            have base : f_X12_readArea X (ad 1) = if bI Bo = 0 then lp (κ := Int32 → St → Option (Int32 × St)) (fun _ _ => none) (arB (ad 1) (nI f) (nI x1) (nI y1) (nI (x1 + m)) (fun S13 => cl (f_X12_readEnd S13 (ad 1)) fun (o16 : Int32 × St) => zc o16.1 (some (o16.1, o16.2)))) FU 0 X6 else (cl (f_X12_fail (uI X6 (ad 1) 14 (nI (tkS B n e5))) (ad 1) 5) fun (o30 : Int32 × St) => zc o30.1 (some (o30.1, o30.2))) := by
              unfold f_X12_readArea
              rw [m1, cl_n, m2, cl_n, if_neg fm, m3, cl_n, if_neg (show ¬ ((1 : Int32), X3).1 = 0 from (by decide : ¬ (1 : Int32) = 0)), g3, lt_n, m4, cl_n, if_neg (show ¬ ((1 : Int32), X4).1 = 0 from (by decide : ¬ (1 : Int32) = 0)), g4, lt_n, m5, cl_n, if_neg (show ¬ ((1 : Int32), X5).1 = 0 from (by decide : ¬ (1 : Int32) = 0)), g5, lt_n, h14, lt_n, m6, cl_n, if_neg (show ¬ ((1 : Int32), X6).1 = 0 from (by decide : ¬ (1 : Int32) = 0)), g6, lt_n, ho, cl_n]
              by_cases hz : bI Bo = 0
              · rw [if_pos hz, if_pos hz]
                exact jn_n _ _
              · rw [if_neg hz, if_neg hz, lt_n]
            refine Or.inl ⟨f, hf, hnm, q0, Bo, hB, fun hb0 => ?_, fun hb1 => ?_⟩
            · obtain ⟨Z, q1, q2⟩ := M_fill rd6 (show f < 8 by omega) hx hy g6 (fun S13 => cl (f_X12_readEnd S13 (ad 1)) fun (o16 : Int32 × St) => zc o16.1 (some (o16.1, o16.2)))
              refine ⟨Z, q2, fun r9 X9 m9 h9 => ?_⟩
              rw [base, hb0, if_pos (by decide), q1, m9, cl_n, zc_w h9]
            · have t7 : TR (uI X6 (ad 1) 14 (nI (tkS B n e5))) ad := TR_SR0 (SR0_uI _ _ _ _) t6
              obtain ⟨X7, m7, f7⟩ := R_fail2 (X := uI X6 (ad 1) 14 (nI (tkS B n e5))) (p := tkS B n e5) t7 (by rw [gI_uI, if_pos ⟨rfl, rfl⟩]) (k := 5) (i := 5) rfl
              refine ⟨X7, ?_, rd6.fd (RFl.pre (RX_u1 (P := P0) t6 (by unfold Qf; omega)) f7)⟩
              rw [base, hb1, if_neg (by decide), m7, cl_n, zc_0]
          · refine Or.inr ⟨cc, tkS B n e5, by rw [z1, z2, z3, z4, z5]; rfl, X6, ?_, rd5.fd f6⟩
            simp only [f_X12_readArea, m1, cl_n, m2, fm, if_false, m3, i10, g3, lt_n, m4, g4, m5, g5, m6, if_true]
        · refine Or.inr ⟨cc, tkS B n e4, by rw [z1, z2, z3, z4]; rfl, X5, ?_, rd4.fd f5⟩
          simp only [f_X12_readArea, m1, cl_n, m2, fm, if_false, m3, i10, g3, lt_n, m4, g4, m5, if_true]
      · refine Or.inr ⟨cc, tkS B n e3, by rw [z1, z2, z3]; rfl, X4, ?_, rd3.fd f4⟩
        simp only [f_X12_readArea, m1, cl_n, m2, fm, if_false, m3, i10, g3, lt_n, m4, if_true]
    · refine Or.inr ⟨cc, tkS B n e2, by rw [z1, z2]; rfl, X3, ?_, rd2.fd f3⟩
      simp only [f_X12_readArea, m1, cl_n, m2, fm, if_false, m3, if_true]
  · refine Or.inr ⟨cc, tkS B n e1, by rw [z1]; rfl, X2, ?_, rd1.fd f2⟩
    simp only [f_X12_readArea, m1, cl_n, m2, if_true]
theorem ST_2' {B : Nat → Int32} {n e : Nat} (h : LGt S ad B n e none) (c : DV S ad d u np nf no) (hk1 : tkK B n e = 1) (hs : stW B n e = 2) (hw : isW B n e 2 = true) (hf : ∀ j, j < 2 → isW B n e j = false) : ST2 S ad d v u B n e (f_X7_readStatement S (ad 12) (ad d)) (fun X => f_X12_readStatement X (ad 1)) := by
  have he := h.2.2.2.2.2.1
  have hd := c.hd
  have hb := c.hb
  have hf8 := c.hf
  have stC : ∀ Z, f_X7_readArea S (ad 12) (ad d) = some Z → f_X7_readStatement S (ad 12) (ad d) = (cl (f_X9_endStatement Z (ad 12)) fun S5 => some S5) := fun Z hz => by
    simp only [f_X7_readStatement, L_isF h (i := 0) (by decide) (hf 0 (by decide)), L_isF h (i := 1) (by decide) (hf 1 (by decide)), L_isT h (i := 2) (by decide) hw, cl_n, jn_n, if_true, i10, if_false, hz]
  have stM : ∀ X, RS X ad B n e → ∀ r X2, (r = 0 ∨ r = 1) → f_X12_readArea X (ad 1) = some (r, X2) → f_X12_readStatement X (ad 1) = some (r, X2) := fun X r q X2 hq hz => by
    simp only [f_X12_readStatement, R_stat r, hs, cl_n, dq20, dq21, if_false, if_true, hz, zc_w hq]
  obtain ⟨e1, he1⟩ : ∃ e1, e1 = tkR B n e := ⟨_, rfl⟩
  have y0 := tkR_le (B := B) he
  have p1' := tkR_lt he hk1
  rw [← he1] at y0 p1'
  have hl0 := h.ls
  rw [← he1] at hl0
  obtain ⟨w, S1, a1, b1, c1, w1, w2⟩ := L_name hl0 hb hf8 c.N true (p2 := 1) rfl
  rw [qor_0] at c1
  have d1 := DV_12 b1 c
  obtain ⟨e2, he2⟩ : ∃ e2, e2 = tkR B n e1 := ⟨_, rfl⟩
  have y1 := tkR_le (B := B) y0.2
  rw [← he2] at y1
  have hl1 := c1.ls
  rw [← he2] at hl1
  obtain ⟨x1, hx1⟩ : ∃ x, x = vNum B n e2 (0) 29 := ⟨_, rfl⟩
  have rx1 := vNum_ok (B := B) (a := 0) y1.2 (show 29 < 2 ^ 31 by decide) (hi := 29) rfl (by omega)
  rw [← hx1] at rx1
  obtain ⟨S2, a2, b2, c2⟩ := L_num hl1 (a := 0) (by omega) 29 (i := 0) rfl
  rw [← hx1] at a2
  have d2 := DV_12 b2 d1
  obtain ⟨e3, he3⟩ : ∃ e3, e3 = tkR B n e2 := ⟨_, rfl⟩
  have y2 := tkR_le (B := B) y1.2
  rw [← he3] at y2
  have hl2 := c2.ls
  rw [← he3] at hl2
  obtain ⟨y1, hy1⟩ : ∃ x, x = vNum B n e3 (0) 29 := ⟨_, rfl⟩
  have ry1 := vNum_ok (B := B) (a := 0) y2.2 (show 29 < 2 ^ 31 by decide) (hi := 29) rfl (by omega)
  rw [← hy1] at ry1
  obtain ⟨S3, a3, b3, c3⟩ := L_num hl2 (a := 0) (by omega) 29 (i := 0) rfl
  rw [← hy1] at a3
  have d3 := DV_12 b3 d2
  obtain ⟨e4, he4⟩ : ∃ e4, e4 = tkR B n e3 := ⟨_, rfl⟩
  have y3 := tkR_le (B := B) y2.2
  rw [← he4] at y3
  have hl3 := c3.ls
  rw [← he4] at hl3
  obtain ⟨x2, hx2⟩ : ∃ x, x = vNum B n e4 (x1 + 1) 30 := ⟨_, rfl⟩
  have rx2 := vNum_ok (B := B) (a := x1 + 1) y3.2 (show 30 < 2 ^ 31 by decide) (hi := 30) rfl (by omega)
  rw [← hx2] at rx2
  obtain ⟨S4, a4, b4, c4⟩ := L_num hl3 (a := x1 + 1) (by omega) 30 (i := nI x1 + 1) (da1 x1)
  rw [← hx2] at a4
  have d4 := DV_12 b4 d3
  obtain ⟨e5, he5⟩ : ∃ e5, e5 = tkR B n e4 := ⟨_, rfl⟩
  have y4 := tkR_le (B := B) y3.2
  rw [← he5] at y4
  have hl4 := c4.ls
  rw [← he5] at hl4
  obtain ⟨y2, hy2⟩ : ∃ x, x = vNum B n e5 (y1 + 1) 30 := ⟨_, rfl⟩
  have ry2 := vNum_ok (B := B) (a := y1 + 1) y4.2 (show 30 < 2 ^ 31 by decide) (hi := 30) rfl (by omega)
  rw [← hy2] at ry2
  obtain ⟨S5, a5, b5, c5⟩ := L_num hl4 (a := y1 + 1) (by omega) 30 (i := nI y1 + 1) (da1 y1)
  rw [← hy2] at a5
  have d5 := DV_12 b5 d4
  obtain ⟨e6, he6⟩ : ∃ e6, e6 = tkR B n e5 := ⟨_, rfl⟩
  have y5 := tkR_le (B := B) y4.2
  rw [← he6] at y5
  obtain ⟨m, hm⟩ : ∃ m, x2 = x1 + m := ⟨x2 - x1, by omega⟩
  obtain ⟨l, hl⟩ : ∃ l, y2 = y1 + l := ⟨y2 - y1, by omega⟩
  have hx30 : x1 + m ≤ 30 := by omega
  have hy30 : y1 + l ≤ 30 := by omega
  obtain ⟨Bo, ho, hB⟩ := G_any d5.t hb w hx30 hy30
  have kk := (((b1.tr b2).tr b3).tr b4).tr b5
  rw [hm] at a4 hx2
  rw [hl] at a5 hy2
  obtain ⟨S6, e7, b6, c6⟩ : ∃ S6, f_X7_readArea S (ad 12) (ad d) = (cl (f_X3_move S6 (ad (d + 2)) (-1) w (nI x1) (nI y1) (nI (x1 + m)) (nI (y1 + l))) fun (o16 : Int32 × St) => some o16.2) ∧ KCx S5 S6 ad P12 ∧ LGt S6 ad B n e5 (qor (qor (qor (qor (qor (eNm B n e1 u nf true) (eNum B n e2 0 29)) (eNum B n e3 0 29)) (eNum B n e4 (x1 + 1) 30)) (eNum B n e5 (y1 + 1) 30)) (if Bo = true then some (5, tkS B n e5) else none)) := by
    cases Bo with
    | false =>
      refine ⟨S5, ?_, KCx.rf, by rw [if_neg (by decide), qor_n]; exact c5⟩
      have ho0 : f_X3_anyOfOthers S5 (ad (d + 2)) w (nI x1) (nI y1) (nI (x1 + m)) (nI (y1 + l)) = some 0 := ho
      simp only [f_X7_readArea, lt_n, r_b0_3 c.t hb, a1, cl_n, a2, a3, a4, a5, r_b0_1 d5.t hb, ho0, jn_n, if_true]
    | true =>
      obtain ⟨S6, a6, b6, c6⟩ := L_fail c5 (k := 5) (by omega) (i := 5) rfl
      refine ⟨S6, ?_, b6, by rw [if_pos rfl]; exact c6⟩
      have ho1 : f_X3_anyOfOthers S5 (ad (d + 2)) w (nI x1) (nI y1) (nI (x1 + m)) (nI (y1 + l)) = some 1 := ho
      simp only [f_X7_readArea, lt_n, r_b0_3 c.t hb, a1, cl_n, a2, a3, a4, a5, r_b0_1 d5.t hb, ho1, jn_n, i10, if_false, a6, r_b0_1 (b6.t d5.t) hb]
  have d6 := DV_12 b6 d5
  rw [G_move (r_b2_0 d6.t hb) (n_b12 d6.t hb) (-1) w hx30 hy30, cl_n] at e7
  have k7 : KCx S6 (qI S6 (ad (d + 12)) (mvG (win x1 y1 m l) (-1) w 900 (gI S6 (ad (d + 12))))) ad (fun p => p = d + 12) := KCx_qI d6.t rfl
  have kA := ((kk.tr b6).mono (fun _ z => Or.inl z)).tr (k7.mono (Q := PD d) (fun p (z : p = d + 12) => Or.inr (by omega)))
  have l7 := LGs_c k7 (by omega) (by omega) c6.ls
  rw [← he6] at l7
  have bd6 : ∀ w c, bdc S6 ad d w c ↔ bdc S5 ad d w c := fun w c => by
    unfold bdc; rw [(b6.2 (d + 12) (by unfold P12; omega) c).1]
  have RA := fun X (r : RS X ad B n e) (hv : gJ X (ad 3) = dV v u) => R_area r hv (by omega) he1 he2 he3 he4 he5 he6 hx1 hy1 hx2 hy2 hx30 hy30 hf8 c.u2
  cases hq : qor (qor (qor (qor (eNm B n e1 u nf true) (eNum B n e2 0 29)) (eNum B n e3 0 29)) (eNum B n e4 (x1 + 1) 30)) (eNum B n e5 (y1 + 1) 30) with
  | some cp =>
    obtain ⟨cc, p⟩ := cp
    rw [hq, qor_s] at l7
    refine ST_end (e1 := e6) (q := some (cc, p)) (u' := u) (np' := np) (nf' := nf) (no' := no) (by omega) kA l7 (stC _ e7) (fun z => by simp at z) (fun X r hv => ?_)
    rcases RA X r hv with ⟨f', h1, h2, h3, -⟩ | ⟨cc', p', z, X', m1, m2⟩
    · rw [hq] at h3; simp at h3
    · rw [hq] at z
      exact Or.inr ⟨cc', p', z, X', stM X r _ _ (Or.inl rfl) m1, m2⟩
  | none =>
    rw [hq, qor_0] at l7
    obtain ⟨q1, -⟩ := qor_none hq
    obtain ⟨q2, -⟩ := qor_none q1
    obtain ⟨q3, -⟩ := qor_none q2
    obtain ⟨q5, -⟩ := qor_none q3
    have hwn := w2 q5
    obtain ⟨f, hff, hfe⟩ : ∃ f, f < nf ∧ nmX B n e1 u nf = nI f := by
      rcases w1 with z | ⟨f, h1, h2⟩
      · exfalso
        rw [hwn] at z
        unfold eNm at q5
        by_cases hg : tkK B n e1 = 1 ∧ stW B n e1 = -1
        · rw [if_pos hg, decide_eq_true z, if_pos rfl] at q5; simp at q5
        · rw [if_neg hg] at q5; simp at q5
      · exact ⟨f, h1, by rw [← hwn]; exact h2⟩
    have wf : w = nI f := hwn.trans hfe
    rw [wf] at e7 kA hB l7
    have same : ∀ Bo' : Bool, (Bo' = true ↔ ∃ c, c < 900 ∧ win x1 y1 m l c = true ∧ u (250 + c) ≠ -1 ∧ u (250 + c) ≠ (nI f).toInt64) → Bo' = Bo := fun Bo' hB' => by
      rw [Bool.eq_iff_iff, hB, hB']
      constructor
      · rintro ⟨i, i1, i2, i3, i4⟩
        rw [d5.G i i1, ← tl_m1, Ne, tl_eq] at i3
        rw [d5.G i i1, Ne, tl_eq] at i4
        exact ⟨i, i1, i2, i3, i4⟩
      · rintro ⟨i, i1, i2, i3, i4⟩
        refine ⟨i, i1, i2, ?_, ?_⟩
        · rw [d5.G i i1, ← tl_m1, Ne, tl_eq]; exact i3
        · rw [d5.G i i1, Ne, tl_eq]; exact i4
    cases Bo with
    | true =>
      rw [if_pos rfl] at l7
      refine ST_end (e1 := e6) (q := some (5, tkS B n e5)) (u' := u) (np' := np) (nf' := nf) (no' := no) (by omega) kA l7 (stC _ e7) (fun z => by simp at z) (fun X r hv => ?_)
      rcases RA X r hv with ⟨f', h1, h2, h3, Bo', h4, h5, h6⟩ | ⟨cc', p', z, -⟩
      · have ff : f' = f := nI_inj (by omega) (by omega) (h2.symm.trans hfe)
        subst ff
        obtain ⟨X', m1, m2⟩ := h6 (same Bo' h4)
        exact Or.inr ⟨5, _, rfl, X', stM X r _ _ (Or.inl rfl) m1, m2⟩
      · rw [hq] at z; simp at z
    | false =>
      rw [if_neg (by decide)] at l7
      have dd := DV_ar d6 hff (P := win x1 y1 m l) (fun ⟨i, i1, i2, i3⟩ => absurd (hB.mpr ⟨i, i1, i2, (bd6 _ _).mp i3⟩) (by decide))
      refine ST_end (e1 := e6) (q := none) (by omega) kA l7 (stC _ e7) (fun _ => dd) (fun X r hv => ?_)
      rcases RA X r hv with ⟨f', h1, h2, h3, Bo', h4, h5, h6⟩ | ⟨cc', p', z, -⟩
      · have ff : f' = f := nI_inj (by omega) (by omega) (h2.symm.trans hfe)
        subst ff
        obtain ⟨X1, m1, m2⟩ := h5 (same Bo' h4)
        exact Or.inl ⟨rfl, X1, m1, fun r9 X9 m9 h9 => stM X r _ _ h9 (m2 r9 X9 m9 h9)⟩
      · rw [hq] at z; simp at z
