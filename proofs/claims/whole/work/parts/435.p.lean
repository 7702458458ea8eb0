/-! the pure part: moving cells, ending contracts -/
variable {S S1 S' S'' S3 : St} {ad : Nat → Nat} {b d j k : Nat} {v v' : Nat → Int64} {np nf no mo no' mo' : Nat}
def qI (S : St) (a : Nat) (g : Nat → Int32) : St := (fun b j => if b = a then g j else S.1 b j, S.2)
def qJ (S : St) (a : Nat) (g : Nat → Int64) : St := (S.1, fun b j => if b = a then g j else S.2.1 b j, S.2.2)
theorem gI_qI (S : St) (a : Nat) (g : Nat → Int32) (b j : Nat) : gI (qI S a g) b j = if b = a then g j else gI S b j := rfl
theorem gJ_qI (S : St) (a : Nat) (g : Nat → Int32) (b j : Nat) : gJ (qI S a g) b j = gJ S b j := rfl
theorem gR_qI (S : St) (a : Nat) (g : Nat → Int32) (b j : Nat) : gR (qI S a g) b j = gR S b j := rfl
theorem gN_qI (S : St) (a : Nat) (g : Nat → Int32) (b : Nat) : gN (qI S a g) b = gN S b := rfl
theorem gJ_qJ (S : St) (a : Nat) (g : Nat → Int64) (b j : Nat) : gJ (qJ S a g) b j = if b = a then g j else gJ S b j := rfl
theorem gI_qJ (S : St) (a : Nat) (g : Nat → Int64) (b j : Nat) : gI (qJ S a g) b j = gI S b j := rfl
theorem gN_qJ (S : St) (a : Nat) (g : Nat → Int64) (b : Nat) : gN (qJ S a g) b = gN S b := rfl
theorem SR0_qI (S : St) (a : Nat) (g : Nat → Int32) : SR0 S (qI S a g) := ⟨fun _ _ => rfl, fun _ => rfl⟩
theorem SR0_qJ (S : St) (a : Nat) (g : Nat → Int64) : SR0 S (qJ S a g) := ⟨fun _ _ => rfl, fun _ => rfl⟩
theorem qI_self (S : St) (a : Nat) : qI S a (gI S a) = S := by
  unfold qI gI
  refine Prod.ext ?_ rfl
  funext b j
  by_cases h : b = a <;> simp [h]
theorem qJ_self (S : St) (a : Nat) : qJ S a (gJ S a) = S := by
  unfold qJ gJ
  refine Prod.ext rfl (Prod.ext ?_ rfl)
  funext b j
  by_cases h : b = a <;> simp [h]
theorem uI_qI (S : St) (a k : Nat) (g : Nat → Int32) (w : Int32) : uI (qI S a g) a k w = qI S a (udt g k w) := by
  simp only [uI, qI]
  congr 1
  funext b j
  simp only [up2, udt]
  by_cases h1 : b = a <;> by_cases h2 : j = k <;> simp [h1, h2]
theorem uJ_qJ (S : St) (a k : Nat) (g : Nat → Int64) (w : Int64) : uJ (qJ S a g) a k w = qJ S a (udt g k w) := by
  simp only [uJ, qJ]
  congr 2
  funext b j
  simp only [up2, udt]
  by_cases h1 : b = a <;> by_cases h2 : j = k <;> simp [h1, h2]
theorem Ch_qI (t : TR S ad) {P : Nat → Prop} {p : Nat} {g : Nat → Int32} (h1 : p ≠ 1) (hP : P p) : Ch S (qI S (ad p) g) ad P := ⟨SR0_qI _ _ _, fun q _ hn i => ⟨by rw [gI_qI, if_neg]; intro e; exact hn (((t.1 _ _).mp e) ▸ hP), rfl⟩, fun l _ => by rw [gI_qI, if_neg]; intro e; exact h1 ((t.1 _ _).mp e).symm⟩
theorem Ch_qJ (t : TR S ad) {P : Nat → Prop} {p : Nat} {g : Nat → Int64} (hP : P p) : Ch S (qJ S (ad p) g) ad P := ⟨SR0_qJ _ _ _, fun q _ hn i => ⟨rfl, by rw [gJ_qJ, if_neg]; intro e; exact hn (((t.1 _ _).mp e) ▸ hP)⟩, fun _ _ => rfl⟩
theorem Mv_q (h : Mv S ad v np nf no mo) (h1 : v' 1 = v 1) (h2 : v' 2 = v 2) (h3 : v' 3 = v 3) (h0 : v' 0 = v 0) : Mv (qJ S (ad 3) v') ad v' np nf no mo := by
  obtain ⟨t, e, g1, g2, g3, g0, hh⟩ := h
  refine ⟨TR_SR0 (SR0_qJ _ _ _) t, ?_, h1.trans g1, h2.trans g2, h3.trans g3, h0.trans g0, hh⟩
  funext i
  rw [gJ_qJ, if_pos rfl]
theorem RK_q (rk : RK S' S3 ad v) (t : TR S' ad) : RK S' (qJ S3 (ad 3) v') ad v' := ⟨rk.1.tr (Ch_qJ (rk.1.t t) (Or.inl rfl)), rk.2.1, funext fun i => by rw [gJ_qJ, if_pos rfl]⟩
theorem qJ_qJ (S : St) (a : Nat) (g h : Nat → Int64) : qJ (qJ S a g) a h = qJ S a h := by
  unfold qJ
  refine Prod.ext rfl (Prod.ext ?_ rfl)
  funext b j
  by_cases e : b = a <;> simp [e]
theorem st3 (t : TR S ad) {g : Nat → Int64} {k : Nat} {w : Int64} {β : Type} {K : St → Option β} (hk : k < 20216) : stJ (qJ S (ad 3) g) (ad 3) (nI k) w K = K (qJ S (ad 3) (udt g k w)) := by
  rw [stJ_at (by rw [gN_qJ, n_3 t]; exact hk) (by rw [gN_qJ, n_3 t]; decide), uJ_qJ]
theorem ld3 (t : TR S ad) {g : Nat → Int64} {k : Nat} {β : Type} {K : Int64 → Option β} (hk : k < 20216) : ldJ (qJ S (ad 3) g) (ad 3) (nI k) K = K (g k) := by
  rw [ldJ_at (by rw [gN_qJ, n_3 t]; exact hk) (by rw [gN_qJ, n_3 t]; decide), gJ_qJ, if_pos rfl]
/-! a rectangle of cells, row by row -/
def win (x1 y1 m n c : Nat) : Bool := decide (x1 ≤ c % 30 ∧ c % 30 < x1 + m ∧ y1 ≤ c / 30 ∧ c / 30 < y1 + n)
theorem itr_seg {σ : Type} (F : Nat → σ → σ) {a m N : Nat} (h : a + m ≤ N) (s : σ) : itr (fun i s => if a ≤ i ∧ i < a + m then F i s else s) 0 N s = itr (fun i s => F (a + i) s) 0 m s := by
  have e1 := itr_add (fun i s => if a ≤ i ∧ i < a + m then F i s else s) a (N - a) 0 s
  rw [show a + (N - a) = N by omega, Nat.zero_add] at e1
  rw [e1, itr_id a 0 s (fun i s _ hi => if_neg (by omega))]
  have e2 := itr_add (fun i s => if a ≤ i ∧ i < a + m then F i s else s) m (N - a - m) a s
  rw [show m + (N - a - m) = N - a by omega] at e2
  rw [e2, itr_id (N - a - m) (a + m) _ (fun i s hi _ => if_neg (by omega)), itr_congr m a s (g := F) (fun i s h1 h2 => if_pos (by omega)), itr_sh, Nat.add_zero]
theorem itr_win {σ : Type} (F : Nat → σ → σ) {x1 y1 m n : Nat} (hx : x1 + m ≤ 30) (hy : y1 + n ≤ 30) (s : σ) : itr (fun c s => if win x1 y1 m n c then F c s else s) 0 900 s = itr (fun y s => itr (fun x s => F (30 * (y1 + y) + (x1 + x)) s) 0 m s) 0 n s := by
  have e := itr_nest (fun c s => if win x1 y1 m n c then F c s else s) 30 30 s
  rw [show (900 : Nat) = 30 * 30 from rfl, ← e]
  have e2 : itr (fun y s => itr (fun x s => if win x1 y1 m n (30 * y + x) then F (30 * y + x) s else s) 0 30 s) 0 30 s = itr (fun y s => if y1 ≤ y ∧ y < y1 + n then itr (fun x s => F (30 * y + (x1 + x)) s) 0 m s else s) 0 30 s := by
    refine itr_congr 30 0 s (fun y s _ hy30 => ?_)
    by_cases h : y1 ≤ y ∧ y < y1 + n
    · rw [if_pos h, ← itr_seg (fun x s => F (30 * y + x) s) hx s]
      refine itr_congr 30 0 s (fun x s _ hx30 => ?_)
      have : win x1 y1 m n (30 * y + x) = decide (x1 ≤ x ∧ x < x1 + m) := by
        unfold win
        rw [show (30 * y + x) % 30 = x by omega, show (30 * y + x) / 30 = y by omega]
        exact decide_eq_decide.mpr (by omega)
      rw [this]
      by_cases h2 : x1 ≤ x ∧ x < x1 + m <;> simp [h2]
    · rw [if_neg h]
      refine itr_id 30 0 s (fun x s _ hx30 => ?_)
      have : win x1 y1 m n (30 * y + x) = false := by
        unfold win
        rw [show (30 * y + x) % 30 = x by omega, show (30 * y + x) / 30 = y by omega]
        exact decide_eq_false (by omega)
      rw [this]; rfl
  rw [e2, itr_seg (fun y s => itr (fun x s => F (30 * y + (x1 + x)) s) 0 m s) hy s]
def mvS (p q : Int32) (c : Nat) (s : Int32 × (Nat → Int32)) : Int32 × (Nat → Int32) := if s.2 c = p then (s.1 + 1, udt s.2 c q) else s
def mvG (P : Nat → Bool) (p q : Int32) (n : Nat) (g : Nat → Int32) : Nat → Int32 := fun c => if c < n ∧ P c = true ∧ g c = p then q else g c
def mvN (P : Nat → Bool) (p : Int32) (g : Nat → Int32) (c : Nat) : Nat := if P c = true ∧ g c = p then 1 else 0
theorem mv_char (P : Nat → Bool) (p q : Int32) (g : Nat → Int32) : ∀ n, itr (fun c s => if P c then mvS p q c s else s) 0 n (0, g) = (nI (sm (mvN P p g) n), mvG P p q n g) := by
  intro n
  induction n with
  | zero =>
    refine Prod.ext rfl ?_
    funext c
    show g c = mvG P p q 0 g c
    rw [mvG, if_neg (by omega)]
  | succ n ih =>
    rw [itr_succ, ih, Nat.zero_add]
    have e0 : mvG P p q n g n = g n := by rw [mvG, if_neg (by omega)]
    cases hP : P n
    · simp only [Bool.false_eq_true, if_false]
      refine Prod.ext ?_ ?_
      · simp only [sm, mvN, hP, Bool.false_eq_true, false_and, if_false, Nat.add_zero]
      · funext c
        simp only [mvG]
        by_cases h : c = n
        · subst h; rw [if_neg (by omega), if_neg (by rw [hP]; simp)]
        · by_cases h2 : c < n ∧ P c = true ∧ g c = p
          · rw [if_pos h2, if_pos ⟨by omega, h2.2⟩]
          · rw [if_neg h2, if_neg (fun e => h2 ⟨by omega, e.2⟩)]
    · simp only [if_true, mvS, e0]
      by_cases hg : g n = p
      · rw [if_pos hg]
        refine Prod.ext ?_ ?_
        · simp only [sm, mvN, hP, hg, and_self, if_true, nI_1]
        · funext c
          show udt (mvG P p q n g) n q c = mvG P p q (n + 1) g c
          by_cases h : c = n
          · subst h; rw [udt_e, mvG, if_pos ⟨by omega, hP, hg⟩]
          · rw [udt_n h, mvG, mvG]
            by_cases h2 : c < n ∧ P c = true ∧ g c = p
            · rw [if_pos h2, if_pos ⟨by omega, h2.2⟩]
            · rw [if_neg h2, if_neg (fun e => h2 ⟨by omega, e.2⟩)]
      · rw [if_neg hg]
        refine Prod.ext ?_ ?_
        · simp only [sm, mvN, hg, and_false, if_false, Nat.add_zero]
        · funext c
          simp only [mvG]
          by_cases h : c = n
          · subst h; rw [if_neg (by omega), if_neg (fun e => hg e.2.2)]
          · by_cases h2 : c < n ∧ P c = true ∧ g c = p
            · rw [if_pos h2, if_pos ⟨by omega, h2.2⟩]
            · rw [if_neg h2, if_neg (fun e => h2 ⟨by omega, e.2⟩)]
theorem G_belongs {a0 a1 : Nat} (hr : gR S a0 0 = a1) (hn : gN S a1 = 900) (p : Int32) {x y : Nat} (hx : x < 30) (hy : y < 30) : f_X3_belongs S a0 p (nI x) (nI y) = some (bI (decide (gI S a1 (30 * y + x) = p))) := by
  simp only [f_X3_belongs, C_contains, vin_nI hx (by decide), vin_nI hy (by decide), Bool.and_self, cl_s, jn_e, if_bI, if_true, lt_e, hr]
  rw [um30, nI_add, Nat.mul_comm, ldI_at (by rw [hn]; omega) (by rw [hn]; decide), bI_if]
theorem G_move {a0 a1 : Nat} (hr : gR S a0 0 = a1) (hn : gN S a1 = 900) (p q : Int32) {x1 y1 m n : Nat} (hx : x1 + m ≤ 30) (hy : y1 + n ≤ 30) : f_X3_move S a0 p q (nI x1) (nI y1) (nI (x1 + m)) (nI (y1 + n)) = some (nI (sm (mvN (win x1 y1 m n) p (gI S a1)) 900), qI S a1 (mvG (win x1 y1 m n) p q 900 (gI S a1))) := by
  have e := mv_char (win x1 y1 m n) p q (gI S a1) 900
  rw [itr_win (mvS p q) hx hy] at e
  simp only [f_X3_move, jn_n]
  have R : ∀ g, gR (qI S a1 g) a0 0 = a1 := fun _ => hr
  have N : ∀ g, gN (qI S a1 g) a1 = 900 := fun _ => hn
  conv => lhs; rw [← qI_self S a1]
  refine (lp_for0 (fun (k : Int32 → Int32 → St → Option (Int32 × St)) i (s : Int32 × (Nat → Int32)) => k s.1 (nI (y1 + i)) (qI S a1 s.2)) _ _ n (by omega) (fun y s => itr (fun x s => mvS p q (30 * (y1 + y) + (x1 + x)) s) 0 m s) (fun s => some (s.1, qI S a1 s.2)) (fun _ _ => True) (0, gI S a1) trivial ?_ (fun _ _ _ _ => trivial) ?_).trans ?_
  · intro k y s hy' _
    have h1 : ¬ nI (y1 + n) ≤ nI (y1 + y) := by rw [nI_leI (by omega) (by omega)]; omega
    rw [if_neg h1]
    refine lp_for0 (fun (k : Int32 → Int32 → St → Option (Int32 × St)) i (s : Int32 × (Nat → Int32)) => k s.1 (nI (x1 + i)) (qI S a1 s.2)) _ _ m (by omega) (fun x s => mvS p q (30 * (y1 + y) + (x1 + x)) s) (fun s => k s.1 (nI (y1 + (y + 1))) (qI S a1 s.2)) (fun _ _ => True) s trivial ?_ (fun _ _ _ _ => trivial) ?_
    · intro k' x s hx' _
      have h2 : ¬ nI (x1 + m) ≤ nI (x1 + x) := by rw [nI_leI (by omega) (by omega)]; omega
      rw [if_neg h2, G_belongs (R _) (N _) p (show x1 + x < 30 by omega) (show y1 + y < 30 by omega)]
      simp only [cl_s, if_bI, gI_qI, if_true, decide_eq_true_eq, lt_e, R, nI_1, Nat.add_assoc, mvS]
      by_cases hp : s.2 (30 * (y1 + y) + (x1 + x)) = p
      · simp only [hp, if_true]
        rw [um30, nI_add, Nat.mul_comm, stI_at (by rw [N]; omega) (by rw [N]; decide), uI_qI]
      · simp only [hp, if_false]
    · intro k' s _
      have h2 : nI (x1 + m) ≤ nI (x1 + m) := by rw [nI_leI (by omega) (by omega)]; omega
      rw [if_pos h2, nI_1, Nat.add_assoc]
  · intro k s _
    have h2 : nI (y1 + n) ≤ nI (y1 + n) := by rw [nI_leI (by omega) (by omega)]; omega
    rw [if_pos h2]
  · rw [e]
/-- a change of the grid alone -/
def grV (v : Nat → Int64) (P : Nat → Bool) (p q : Int32) : Nat → Int64 := fun i => if (250 ≤ i ∧ i < 1150) ∧ P (i - 250) = true ∧ v i = p.toInt64 then q.toInt64 else v i
theorem grV_n {P : Nat → Bool} {p q : Int32} {i : Nat} (h : i < 250 ∨ 1150 ≤ i) : grV v P p q i = v i := by rw [grV, if_neg (by omega)]
theorem MK_grid (c : CV S ad b v np nf no mo) (P : Nat → Bool) (p q : Int32) (hq : q = -1 ∨ ∃ g, g < nf ∧ q = nI g) (ho : ∀ o, o < no → v (186 + 4 * o + 0) ≠ -1 → ¬ (P (30 * oy v o + ox v o) = true ∧ v (250 + (30 * oy v o + ox v o)) = p.toInt64)) : MK S (qI S (ad (b + 12)) (mvG P p q 900 (gI S (ad (b + 12))))) ad b v (grV v P p q) np nf no mo := by
  have h8 := c.hf
  have h16 := c.ho
  have h4 := c.hp
  have hm := c.hm
  have hb := c.2.1
  have hv : ∀ i, (i < 250 ∨ 1150 ≤ i) → grV v P p q i = v i := fun i hi => grV_n hi
  have ch : Ch S (qI S (ad (b + 12)) (mvG P p q 900 (gI S (ad (b + 12))))) ad (fun p => p = b + 12) := Ch_qI c.t (by omega) rfl
  have A : ∀ r, r ≠ 12 → Ag S (qI S (ad (b + 12)) (mvG P p q 900 (gI S (ad (b + 12))))) ad (b + r) := fun r hr => ch.2.1 _ (by omega) (by omega)
  refine ⟨ch.mono (fun p e => Or.inr ⟨12, by unfold MQ2; omega, e⟩), ⟨fun l hl => ?_, ?_, ?_, ?_, ?_⟩, ?_, ⟨fun i hi => hv i (by omega), fun f hf => hv _ (by omega)⟩, fun i hi => hv i (by omega), by rw [hv 3 (by omega)]; exact c.m.2.2.2.2.1, by rw [hv 0 (by omega)]; exact c.m.2.2.2.2.2.1, c.ho, c.hm, WS_k c (fun f q hf hq => hv _ (by omega)) (hv 11 (by omega))⟩
  · rw [gI_qI, if_pos rfl, grV, mvG, Nat.add_sub_cancel_left, c.G l hl]
    simp only [tl_eq]
    by_cases h : P l = true ∧ gI S (ad (b + 12)) l = p
    · rw [if_pos ⟨by omega, h⟩, if_pos ⟨hl, h⟩]
    · rw [if_neg (fun e => h e.2), if_neg (fun e => h e.2)]
  · exact AXO_w (fun i hi => hv i (by omega)) c.ho (AXO_c (fun r hr => A r (by omega)) c.O)
  · exact AXF_w (fun f q hf hq => hv _ (by omega)) (AXF_c (fun q hq => A q (by omega)) c.F)
  · exact AXR_w (fun f q hf hq => hv _ (by omega)) (AXR_c (fun q hq => A q (by omega)) c.R)
  · exact AXB_w (fun i hi => hv i (by omega)) (fun f q hf hq => hv _ (by omega)) c.hf c.hm (AXB_c (fun q hq => A q (by omega)) c.B)
  · have w := c.w
    obtain ⟨a1, ap, af, ao, ac, ad0, as, ar⟩ := c.w
    refine ⟨?_, fun q hq => by rw [hv _ (by omega)]; exact ap q hq, fun g hg => ?_, fun o ho' => ?_, fun l hl => ?_, fun i hi => by rw [hv _ (by omega)]; exact ad0 i hi, ?_, fun k g hk hg => by rw [hv _ (by omega)]; exact ar k g hk hg⟩
    · rw [hv 4 (by omega), hv 5 (by omega), hv 6 (by omega), hv 7 (by omega), hv 8 (by omega), hv 9 (by omega)]; exact a1
    · rw [hv _ (by omega), hv _ (by omega), hv _ (by omega), hv _ (by omega)]; exact af g hg
    · obtain ⟨⟨x, y, hx, hy, e1, e2, e3⟩, s, hs, e4⟩ := ao o ho'
      have ex : ox v o = x := by rw [ox, e1, lN_toInt (by omega)]; omega
      have ey : oy v o = y := by rw [oy, e2, lN_toInt (by omega)]; omega
      rw [hv (186 + 4 * o + 0) (by omega), hv (186 + 4 * o + 1) (by omega), hv (186 + 4 * o + 2) (by omega), hv (186 + 4 * o + 3) (by omega)]
      refine ⟨⟨x, y, hx, hy, e1, e2, ?_⟩, s, hs, e4⟩
      rcases e3 with e3 | ⟨f, hf, e5, e6⟩
      · exact Or.inl e3
      · right
        refine ⟨f, hf, e5, ?_⟩
        have hno : v (186 + 4 * o + 0) ≠ -1 := by
          rw [e5, ← nI_l (by omega), ← tl_m1]
          exact fun e => nI_m1 (by omega) ((tl_eq _ _).mp e)
        have := ho o ho' hno
        rw [ex, ey] at this
        rw [grV, if_neg]
        · exact e6
        · rintro ⟨-, e7, e8⟩
          rw [Nat.add_sub_cancel_left] at e7
          exact this ⟨e7, e8⟩
    · rw [grV]
      by_cases h : (250 ≤ 250 + l ∧ 250 + l < 1150) ∧ P (250 + l - 250) = true ∧ v (250 + l) = p.toInt64
      · rw [if_pos h]
        rcases hq with rfl | ⟨g, hg, rfl⟩
        · exact Or.inl rfl
        · exact Or.inr ⟨g, hg, nI_l (by omega)⟩
      · rw [if_neg h]; exact ac l hl
    · rw [hv 11 (by omega), hv 12 (by omega), hv 13 (by omega)]; exact as
/-- closing a franchisee's outlets -/
def clV (v : Nat → Int64) (no : Nat) (p : Int32) : Nat → Int64 := fun i => if (186 ≤ i ∧ (i - 186) % 4 = 0 ∧ (i - 186) / 4 < no) ∧ v i = p.toInt64 then -1 else v i
def clG (no : Nat) (p : Int32) (g : Nat → Int32) : Nat → Int32 := fun o => if o < no ∧ g o = p then -1 else g o
theorem clV_n {p : Int32} {i : Nat} (h : i < 186 ∨ 250 ≤ i) (ho : no ≤ 16) : clV v no p i = v i := by rw [clV, if_neg (by omega)]
theorem clV_q {p : Int32} {o q : Nat} (hq : q < 4) (hq0 : 0 < q) : clV v no p (186 + 4 * o + q) = v (186 + 4 * o + q) := by rw [clV, if_neg (by omega)]
theorem clV_0 {p : Int32} {o : Nat} (ho : o < no) : clV v no p (186 + 4 * o + 0) = if v (186 + 4 * o + 0) = p.toInt64 then -1 else v (186 + 4 * o + 0) := by
  rw [clV]
  by_cases h : v (186 + 4 * o + 0) = p.toInt64
  · rw [if_pos ⟨by omega, h⟩, if_pos h]
  · rw [if_neg (fun e => h e.2), if_neg h]
theorem MK_close (c : CV S ad b v np nf no mo) (p : Int32) : MK S (qI S (ad (b + 15)) (clG no p (gI S (ad (b + 15))))) ad b v (clV v no p) np nf no mo := by
  have h8 := c.hf
  have h16 := c.ho
  have h4 := c.hp
  have hm := c.hm
  have hb := c.2.1
  have hv : ∀ i, (i < 186 ∨ 250 ≤ i) → clV v no p i = v i := fun i hi => clV_n hi c.ho
  have ch : Ch S (qI S (ad (b + 15)) (clG no p (gI S (ad (b + 15))))) ad (fun p => p = b + 15) := Ch_qI c.t (by omega) rfl
  have A : ∀ r, r ≠ 15 → Ag S (qI S (ad (b + 15)) (clG no p (gI S (ad (b + 15))))) ad (b + r) := fun r hr => ch.2.1 _ (by omega) (by omega)
  refine ⟨ch.mono (fun p e => Or.inr ⟨15, by unfold MQ2; omega, e⟩), ⟨?_, ⟨?_, fun o ho => ?_⟩, ?_, ?_, ?_⟩, ?_, ⟨fun i hi => hv i (by omega), fun f hf => hv _ (by omega)⟩, fun i hi => hv i (by omega), by rw [hv 3 (by omega)]; exact c.m.2.2.2.2.1, by rw [hv 0 (by omega)]; exact c.m.2.2.2.2.2.1, c.ho, c.hm, WS_k c (fun f q hf hq => hv _ (by omega)) (hv 11 (by omega))⟩
  · exact AXG_w (fun i hi => hv i (by omega)) (AXG_c (A 12 (by decide)) c.G)
  · rw [(A 3 (by decide) 4).1]; exact c.O.1
  · obtain ⟨a0, a1, a2, a3⟩ := c.O.2 o ho
    rw [clV_0 ho, clV_q (by decide) (by decide), clV_q (by decide) (by decide), clV_q (by decide) (by decide), (A 16 (by decide) o).1, (A 17 (by decide) o).1, (A 18 (by decide) o).2, gI_qI, if_pos rfl, clG]
    refine ⟨?_, a1, a2, a3⟩
    rw [a0]
    simp only [tl_eq]
    by_cases h : gI S (ad (b + 15)) o = p
    · rw [if_pos h, if_pos ⟨ho, h⟩]; rfl
    · rw [if_neg h, if_neg (fun e => h e.2)]
  · exact AXF_w (fun f q hf hq => hv _ (by omega)) (AXF_c (fun q hq => A q (by omega)) c.F)
  · exact AXR_w (fun f q hf hq => hv _ (by omega)) (AXR_c (fun q hq => A q (by omega)) c.R)
  · exact AXB_w (fun i hi => hv i (by omega)) (fun f q hf hq => hv _ (by omega)) c.hf c.hm (AXB_c (fun q hq => A q (by omega)) c.B)
  · obtain ⟨a1, ap, af, ao, ac, ad0, as, ar⟩ := c.w
    refine ⟨?_, fun q hq => by rw [hv _ (by omega)]; exact ap q hq, fun g hg => ?_, fun o ho => ?_, fun l hl => by rw [hv _ (by omega)]; exact ac l hl, fun i hi => by rw [hv _ (by omega)]; exact ad0 i hi, ?_, fun k g hk hg => by rw [hv _ (by omega)]; exact ar k g hk hg⟩
    · rw [hv 4 (by omega), hv 5 (by omega), hv 6 (by omega), hv 7 (by omega), hv 8 (by omega), hv 9 (by omega)]; exact a1
    · rw [hv _ (by omega), hv _ (by omega), hv _ (by omega), hv _ (by omega)]; exact af g hg
    · obtain ⟨⟨x, y, hx, hy, e1, e2, e3⟩, s, hs, e4⟩ := ao o ho
      rw [clV_0 ho, clV_q (by decide) (by decide), clV_q (by decide) (by decide), clV_q (by decide) (by decide)]
      refine ⟨⟨x, y, hx, hy, e1, e2, ?_⟩, s, hs, e4⟩
      rw [hv (250 + (30 * y + x)) (by omega)]
      by_cases h : v (186 + 4 * o + 0) = p.toInt64
      · rw [if_pos h]; exact Or.inl rfl
      · rw [if_neg h]; exact e3
    · rw [hv 11 (by omega), hv 12 (by omega), hv 13 (by omega)]; exact as
