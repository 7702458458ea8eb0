/-! the pure part: a draft business and the draft block -/
variable {S S0 S1 S2 S' S'' S3 X Y : St} {ad : Nat → Nat} {b d j k : Nat} {v v0 v' v1 v2 u u' : Nat → Int64} {np nf no mo no' mo' x y : Nat}
/-- what is fresh in a draft -/
def ZR (S : St) (ad : Nat → Nat) (d : Nat) (u : Nat → Int64) (np nf no : Nat) : Prop := (∀ f q, nf ≤ f → f < 8 → q < 16 → u (58 + 16 * f + q) = 0) ∧ (∀ p q, np ≤ p → p < 4 → q < 11 → u (14 + 11 * p + q) = 0) ∧ (∀ o, o < no → u (186 + 4 * o + 0) ≠ -1) ∧ ∀ f, f < 8 → gI S (ad (d + 27)) f = 0 ∧ gJ S (ad (d + 36)) f = 0 ∧ gJ S (ad (d + 37)) f = 0
/-- the draft d of the ledger fits the draft block u -/
def DV (S : St) (ad : Nat → Nat) (d : Nat) (u : Nat → Int64) (np nf no : Nat) : Prop := Mw S ad u np nf no 0 ∧ (d = 40 ∨ d = 80) ∧ WF u np nf no 0 ∧ WS u nf 0 ∧ AXT S ad d u np ∧ AXG S ad d u ∧ AXO S ad d u no ∧ AXN S ad d u nf ∧ AXF S ad d u nf ∧ AXR S ad d u nf 0 ∧ AXB S ad d u nf 0 ∧ ZR S ad d u np nf no
theorem DV.m (c : DV S ad d u np nf no) : Mw S ad u np nf no 0 := c.1
theorem DV.t (c : DV S ad d u np nf no) : TR S ad := c.1.1
theorem DV.hd (c : DV S ad d u np nf no) : d = 40 ∨ d = 80 := c.2.1
theorem DV.hb (c : DV S ad d u np nf no) : BB d := c.2.1.elim (fun h => Or.inl h) (fun h => Or.inr (Or.inl h))
theorem DV.w (c : DV S ad d u np nf no) : WF u np nf no 0 := c.2.2.1
theorem DV.ws (c : DV S ad d u np nf no) : WS u nf 0 := c.2.2.2.1
theorem DV.T (c : DV S ad d u np nf no) : AXT S ad d u np := c.2.2.2.2.1
theorem DV.G (c : DV S ad d u np nf no) : AXG S ad d u := c.2.2.2.2.2.1
theorem DV.O (c : DV S ad d u np nf no) : AXO S ad d u no := c.2.2.2.2.2.2.1
theorem DV.N (c : DV S ad d u np nf no) : AXN S ad d u nf := c.2.2.2.2.2.2.2.1
theorem DV.F (c : DV S ad d u np nf no) : AXF S ad d u nf := c.2.2.2.2.2.2.2.2.1
theorem DV.R (c : DV S ad d u np nf no) : AXR S ad d u nf 0 := c.2.2.2.2.2.2.2.2.2.1
theorem DV.B (c : DV S ad d u np nf no) : AXB S ad d u nf 0 := c.2.2.2.2.2.2.2.2.2.2.1
theorem DV.Z (c : DV S ad d u np nf no) : ZR S ad d u np nf no := c.2.2.2.2.2.2.2.2.2.2.2
theorem DV.hp (c : DV S ad d u np nf no) : np ≤ 4 := c.1.2.2.2.2.2.2.1
theorem DV.hf (c : DV S ad d u np nf no) : nf ≤ 8 := c.1.2.2.2.2.2.2.2.1
theorem DV.ho (c : DV S ad d u np nf no) : no ≤ 16 := c.1.2.2.2.2.2.2.2.2.1
theorem DV.u0 (c : DV S ad d u np nf no) : u 0 = lN 0 := c.1.2.2.2.2.2.1
theorem DV.u1 (c : DV S ad d u np nf no) : u 1 = lN np := c.1.2.2.1
theorem DV.u2 (c : DV S ad d u np nf no) : u 2 = lN nf := c.1.2.2.2.1
theorem DV.u3 (c : DV S ad d u np nf no) : u 3 = lN no := c.1.2.2.2.2.1
theorem ZR_c (h : ∀ q, q = 27 ∨ q = 36 ∨ q = 37 → Ag S S' ad (d + q)) (a : ZR S ad d u np nf no) : ZR S' ad d u np nf no :=
  ⟨a.1, a.2.1, a.2.2.1, fun f hf => ⟨(h 27 (by omega) f).1.trans (a.2.2.2 f hf).1, (h 36 (by omega) f).2.trans (a.2.2.2 f hf).2.1, (h 37 (by omega) f).2.trans (a.2.2.2 f hf).2.2⟩⟩
theorem DV_c (hs : SR0 S S') (h : ∀ q, BR q → Ag S S' ad (d + q)) (c : DV S ad d u np nf no) : DV S' ad d u np nf no :=
  ⟨⟨TR_SR0 hs c.t, trivial, c.m.2.2⟩, c.2.1, c.w, c.ws, AXT_c (fun q hq => h q (by unfold BR; omega)) c.T, AXG_c (h 12 (by unfold BR; omega)) c.G, AXO_c (fun q hq => h q (by unfold BR; omega)) c.O, AXN_c (fun q hq => h q (by unfold BR; omega)) c.N, AXF_c (fun q hq => h q (by unfold BR; omega)) c.F, AXR_c (fun q hq => h q (by unfold BR; omega)) c.R, AXB_c (fun q hq => h q (by unfold BR; omega)) c.B, ZR_c (fun q hq => h q (by unfold BR; omega)) c.Z⟩
theorem DV_12 (h : KCx S S' ad P12) (c : DV S ad d u np nf no) : DV S' ad d u np nf no := DV_c h.1 (fun q hq => h.2 _ (by have := c.hd; unfold P12; omega)) c
/-- the reference's memory with the draft block -/
def dV (v u : Nat → Int64) : Nat → Int64 := fun i => if 15162 ≤ i ∧ i < 20216 then u (i - 15162) else v i
theorem dV_at {k : Nat} (hk : k < 5054) : dV v u (15162 + k) = u k := by
  unfold dV; rw [if_pos (by omega), show 15162 + k - 15162 = k by omega]
theorem dV_u {k : Nat} (hk : k < 5054) (w : Int64) : udt (dV v u) (15162 + k) w = dV v (udt u k w) := by
  funext i
  by_cases h : i = 15162 + k
  · subst h; rw [udt_e, dV_at hk, udt_e]
  · rw [udt_n h]
    unfold dV
    by_cases h2 : 15162 ≤ i ∧ i < 20216
    · rw [if_pos h2, if_pos h2, udt_n (by omega)]
    · rw [if_neg h2, if_neg h2]
theorem ld3d (t : TR X ad) (h : gJ X (ad 3) = dV v u) {β : Type} {k : Nat} {i : Int32} {K : Int64 → Option β} (hi : i = nI (15162 + k)) (hk : k < 5054) : ldJ X (ad 3) i K = K (u k) := by
  rw [hi, ldJ_at (by rw [n_3 t]; omega) (by rw [n_3 t]; decide), h, dV_at hk]
theorem st3d (t : TR X ad) {β : Type} {k : Nat} {i : Int32} {w : Int64} {K : St → Option β} (hi : i = nI (15162 + k)) (hk : k < 5054) : stJ X (ad 3) i w K = K (uJ X (ad 3) (15162 + k) w) := by
  rw [hi, stJ_at (by rw [n_3 t]; omega) (by rw [n_3 t]; decide)]
theorem g3d (h : gJ X (ad 3) = dV v u) {k : Nat} (hk : k < 5054) (w : Int64) : gJ (uJ X (ad 3) (15162 + k) w) (ad 3) = dV v (udt u k w) := by
  rw [← dV_u hk, ← h]
  funext i
  rw [gJ_uJ]
  by_cases e : i = 15162 + k
  · rw [if_pos ⟨rfl, e⟩, e, udt_e]
  · rw [if_neg (fun z => e z.2), udt_n e]
def P3 (p : Nat) : Prop := p = 3
/-- the reference goes on: the token of e, the draft u -/
def RD (X X' : St) (ad : Nat → Nat) (B : Nat → Int32) (n e : Nat) (v u : Nat → Int64) : Prop := RS X' ad B n e ∧ RX X X' ad P3 Qt ∧ gJ X' (ad 3) = dV v u
theorem RX0_3 {w : Nat → Int64} (h : RX X Y ad P0 Qt) (hv : gJ X (ad 3) = w) : gJ Y (ad 3) = w := (funext fun l => (h.2.1 3 (by decide) (fun z => z) l).2).trans hv
theorem RD_mk {B : Nat → Int32} {n e : Nat} (r : RS Y ad B n e) (x : RX X Y ad P0 Qt) (hv : gJ X (ad 3) = dV v u) : RD X Y ad B n e v u := ⟨r, x.mono (fun _ z => z.elim) (fun _ z => z), RX0_3 x hv⟩
theorem RD_st {B : Nat → Int32} {n e k : Nat} {w : Int64} (r : RD X Y ad B n e v u) (hk : k < 5054) : RD X (uJ Y (ad 3) (15162 + k) w) ad B n e v (udt u k w) := ⟨RS_uJ r.1 (by decide) (by decide), r.2.1.tr (RX_uJ (P := P3) r.1.1.1 rfl), g3d r.2.2 hk w⟩
theorem RD.tr {B : Nat → Int32} {n e e' : Nat} {Z : St} (r : RD X Y ad B n e v u) (r2 : RD Y Z ad B n e' v' u') : RD X Z ad B n e' v' u' := ⟨r2.1, r.2.1.tr r2.2.1, r2.2.2⟩
theorem RD.rf {B : Nat → Int32} {n e : Nat} (r : RS X ad B n e) (hv : gJ X (ad 3) = dV v u) : RD X X ad B n e v u := ⟨r, RX.rf, hv⟩
theorem RD.fl {B : Nat → Int32} {n e c p : Nat} (r : RD X Y ad B n e v u) (f : RFl Y S ad P3 Qf c p) : RFl X S ad P3 Qf c p := RFl.pre (r.2.1.mono (fun _ z => z) Qtf) f
theorem RFl0 {c p : Nat} (f : RFl Y S ad P0 Qf c p) : RFl Y S ad P3 Qf c p := f.mono (fun _ z => z.elim) (fun _ z => z)
/-- the reference has failed: the draft block alone may have changed -/
def RFd (X X' : St) (ad : Nat → Nat) (v : Nat → Int64) (c p : Nat) : Prop := RFl X X' ad P3 Qf c p ∧ ∃ u'', gJ X' (ad 3) = dV v u''
theorem RFl.dd {c p : Nat} (f : RFl X S ad P0 Qf c p) (hv : gJ X (ad 3) = dV v u) : RFd X S ad v c p := ⟨RFl0 f, u, (funext fun l => (f.1.2.1 3 (by decide) (fun z => z) l).2).trans hv⟩
theorem RD.fd {B : Nat → Int32} {n e c p : Nat} (r : RD X Y ad B n e v u) (f : RFl Y S ad P0 Qf c p) : RFd X S ad v c p := ⟨r.fl (RFl0 f), u, (funext fun l => (f.1.2.1 3 (by decide) (fun z => z) l).2).trans r.2.2⟩
theorem RD.fdd {B : Nat → Int32} {n e c p : Nat} (r : RD X Y ad B n e v u) (f : RFd Y S ad v c p) : RFd X S ad v c p := ⟨r.fl f.1, f.2⟩
theorem R_into {B : Nat → Int32} {n e a k : Nat} {mul : Int64} (r : RS X ad B n e) (hv : gJ X (ad 3) = dV v u) {i : Int32} (hi : i = nI (15162 + k)) (hk : k < 5054) (ha : a ≤ 1000000) (hh : Int32) {ia : Int32} (hia : ia = nI a) : (eNum B n e a hh = none ∧ ∃ X', f_X12_readInto X (ad 1) i ia hh mul = some (1, X') ∧ RD X X' ad B n (tkR B n e) v (udt u k (Int32.toInt64 (nI (vNum B n e a hh)) * mul))) ∨ (∃ c, eNum B n e a hh = some (c, tkS B n e) ∧ (1 ≤ c ∧ c ≤ 5) ∧ ∃ X', f_X12_readInto X (ad 1) i ia hh mul = some (0, X') ∧ RFl X X' ad P0 Qf c (tkS B n e)) := by
  rcases R_num r ha hh hia with ⟨h1, S1, h2, h3, h4, h5⟩ | ⟨c, h1, hc, S1, h2, h3⟩
  · refine Or.inl ⟨h1, _, ?_, RD_st (RD_mk h3 h4 hv) hk⟩
    simp only [f_X12_readInto, h2, cl_n, i10, if_false, lt_n, r_1_0 h3.1.1, h5]
    exact st3d h3.1.1 hi hk
  · refine Or.inr ⟨c, h1, hc, S1, ?_, h3⟩
    simp only [f_X12_readInto, h2, cl_n, if_true]
/-- the names of a draft -/
def PD (d p : Nat) : Prop := p = 12 ∨ (d ≤ p ∧ p ≤ d + 38)
/-- a statement: what the ledger does, what the reference does -/
def ST2 (S : St) (ad : Nat → Nat) (d : Nat) (v u : Nat → Int64) (B : Nat → Int32) (n e : Nat) (C : Option St) (M : St → Option (Int32 × St)) : Prop := ∃ S', C = some S' ∧ KCx S S' ad (PD d) ∧ ((∃ e' u' np' nf' no', e < e' ∧ LGs S' ad B n e' none ∧ DV S' ad d u' np' nf' no' ∧ ∀ X, RS X ad B n e → gJ X (ad 3) = dV v u → ∃ X', M X = some (1, X') ∧ RD X X' ad B n e' v u') ∨ (∃ c p e', LGs S' ad B n e' (some (c, p)) ∧ ∀ X, RS X ad B n e → gJ X (ad 3) = dV v u → ∃ X', M X = some (0, X') ∧ RFd X X' ad v c p))
/-- a body that is followed by the end of the statement -/
theorem ST_end {B : Nat → Int32} {n e e1 : Nat} {q : Option (Nat × Nat)} {C : Option St} {M : St → Option (Int32 × St)} {np' nf' no' : Nat} (he : e < e1) (k1 : KCx S S1 ad (PD d)) (l1 : LGs S1 ad B n e1 q) (hC : C = (cl (f_X9_endStatement S1 (ad 12)) fun S5 => some S5)) (hn : q = none → DV S1 ad d u' np' nf' no') (hX : ∀ X, RS X ad B n e → gJ X (ad 3) = dV v u → (q = none ∧ ∃ X1, RD X X1 ad B n e1 v u' ∧ (∀ r X2, f_X12_readEnd X1 (ad 1) = some (r, X2) → r = 0 ∨ r = 1 → M X = some (r, X2))) ∨ (∃ c p, q = some (c, p) ∧ ∃ X', M X = some (0, X') ∧ RFd X X' ad v c p)) : ST2 S ad d v u B n e C M := by
  obtain ⟨S5, a5, b5, c5⟩ := L_end l1
  refine ⟨S5, by rw [hC, a5, cl_n], k1.tr (b5.mono (fun _ z => Or.inl z)), ?_⟩
  have he1 : e1 ≤ n := l1.2.2.2.1
  have h1 := tkR_le (B := B) he1
  cases hq : qor q (eEnd B n e1) with
  | none =>
    obtain ⟨q1, q2⟩ := qor_none hq
    rw [hq] at c5
    refine Or.inl ⟨_, u', np', nf', no', by omega, c5.ls, DV_12 b5 (hn q1), fun X r hv => ?_⟩
    rcases hX X r hv with ⟨-, X1, r1, hM⟩ | ⟨c, p, z, -⟩
    · rcases R_end r1.1 with ⟨-, X2, a2, r2, x2⟩ | ⟨z, -⟩
      · exact ⟨X2, hM _ _ a2 (Or.inr rfl), r1.tr (RD_mk r2 x2 r1.2.2)⟩
      · rw [q2] at z; simp at z
    · rw [q1] at z; simp at z
  | some cp =>
    obtain ⟨c, p⟩ := cp
    rw [hq] at c5
    refine Or.inr ⟨c, p, _, c5.ls, fun X r hv => ?_⟩
    rcases hX X r hv with ⟨q1, X1, r1, hM⟩ | ⟨c', p', z, X', m1, f1⟩
    · rcases R_end r1.1 with ⟨z, -⟩ | ⟨z, X2, a2, f2⟩
      · rw [q1, z] at hq; simp [qor] at hq
      · rw [q1, z, qor_0] at hq
        injection hq with hq
        injection hq with hc hp
        subst hc; subst hp
        exact ⟨X2, hM _ _ a2 (Or.inl rfl), r1.fd f2⟩
    · rw [z, qor_s] at hq
      injection hq with hq
      injection hq with hc hp
      subst hc; subst hp
      exact ⟨X', m1, f1⟩
theorem D_oxy (c : DV S ad b v np nf no) {o : Nat} (ho : o < no) : gI S (ad (b + 16)) o = nI (ox v o) ∧ gI S (ad (b + 17)) o = nI (oy v o) := by
  obtain ⟨h1, h2, e1, e2⟩ := oxy c.w ho
  obtain ⟨-, f1, f2, -⟩ := c.O.2 o ho
  rw [e1, ← nI_l (by omega), tl_eq] at f1
  rw [e2, ← nI_l (by omega), tl_eq] at f2
  exact ⟨f1.symm, f2.symm⟩
theorem D_near (c : DV S ad b v np nf no) (p : Int32) {x y : Nat} (hx : x < 30) (hy : y < 30) : f_X6_nearest S (ad (b + 3)) p (nI x) (nI y) = some (nI (nr v no p x y)) := by
  have ho := c.ho
  simp only [f_X6_nearest, lt_n, jn_n, r_b3_0 c.t c.hb, r_b3_1 c.t c.hb, r_b3_2 c.t c.hb, c.O.1]
  refine lp_for0 (fun (k : Int32 → Int32 → Option Int32) i (s : Nat) => k (nI s) (nI i)) _ _ no (by omega) (nrS v p x y) (fun s => some (nI s)) (fun _ s => s ≤ 1000) 1000 (by decide) ?_ ?_ ?_
  · intro k i s hi hs
    have h1 : ¬ nI no ≤ nI i := by rw [nI_leI (by omega) (by omega)]; omega
    have hi16 : i < 16 := by omega
    obtain ⟨e0, -, -, -⟩ := c.O.2 i hi
    obtain ⟨e1, e2⟩ := D_oxy c hi
    obtain ⟨b1, b2, -, -⟩ := oxy c.w hi
    simp only [h1, if_false, lb15 c.t c.hb hi16, lb16 c.t c.hb hi16, lb17 c.t c.hb hi16, e1, e2, C_steps hx hy b1 b2, cl_s, nrS, oc, e0, nI_1]
    rw [show (-1 : Int64) = (-1 : Int32).toInt64 from rfl]
    have := dst_lt hx hy b1 b2
    have e : (nI (dst x y (ox v i) (oy v i)) < nI s) = (dst x y (ox v i) (oy v i) < s) := by rw [nI_ltI (by omega) (by omega)]
    simp only [e, tl_eq]
    by_cases ha : gI S (ad (b + 15)) i = -1
    · simp [ha]
    · by_cases hb : p = -1
      · by_cases hd : dst x y (ox v i) (oy v i) < s <;> simp [ha, hb, hd]
      · by_cases hc : gI S (ad (b + 15)) i = p
        · by_cases hd : dst x y (ox v i) (oy v i) < s <;> simp [hc, hb, hd]
        · simp [ha, hb, hc]
  · intro i s hi hs
    exact nrS_le hs
  · intro k s _
    have h1 : nI no ≤ nI no := by rw [nI_leI (by omega) (by omega)]; omega
    simp only [h1, if_true]
theorem D_free (c : DV S ad b v np nf no) (p : Int32) {x y : Nat} (hx : x < 30) (hy : y < 30) : f_X1_hasFreeCell S (ad b) p (nI x) (nI y) = some (bI (decide (v (250 + (30 * y + x)) = p.toInt64) && !decide (nr v no (-1) x y = 0))) := by
  have n1 := nr_58 c.w (-1) hx hy
  simp only [f_X1_hasFreeCell, lt_e, r_b0_1 c.t c.hb, r_b0_2 c.t c.hb, C_ownerAt c.t c.hb hx hy, D_near c (-1) hx hy, cl_s, jn_e, c.G (30 * y + x) (by omega), tl_eq]
  have e : (nI (nr v no (-1) x y) ≤ 0) = (nr v no (-1) x y = 0) := by
    rw [← nI_0, nI_leI (by omega) (by omega)]; exact propext (by omega)
  simp only [e]
  by_cases h1 : gI S (ad (b + 12)) (30 * y + x) = p
  · by_cases h2 : nr v no (-1) x y = 0 <;> simp [h1, h2, bI]
  · simp [h1, bI]
def opD (S : St) (ad : Nat → Nat) (b no : Nat) (f : Int32) (x y : Nat) : St := uI (uJ (uI (uI (uI S (ad (b + 15)) no f) (ad (b + 16)) no (nI x)) (ad (b + 17)) no (nI y)) (ad (b + 18)) no 0) (ad (b + 3)) 4 (nI (no + 1))
theorem D_addO (c : DV S ad b v np nf no) {x y : Nat} (f : Int32) : f_X6_add S (ad (b + 3)) f (nI x) (nI y) = if no < 16 then some (nI no, opD S ad b no f x y) else some (-3, S) := by
  have ho := c.ho
  have hb := c.hb
  have t0 := c.t
  have t1 := TR_SR0 (SR0_uI S (ad (b + 15)) no f) t0
  have t2 := TR_SR0 (SR0_uI _ (ad (b + 16)) no (nI x)) t1
  have t3 := TR_SR0 (SR0_uI _ (ad (b + 17)) no (nI y)) t2
  have t4 := TR_SR0 (SR0_uJ _ (ad (b + 18)) no 0) t3
  have e : (nI no < 16) = (no < 16) := by rw [show (16 : Int32) = nI 16 from rfl, nI_ltI (by omega) (by decide)]
  simp only [f_X6_add, lt_e, c.O.1, e]
  by_cases h : no < 16
  · have g4 : gI (uJ (uI (uI (uI S (ad (b + 15)) no f) (ad (b + 16)) no (nI x)) (ad (b + 17)) no (nI y)) (ad (b + 18)) no 0) (ad (b + 3)) 4 = nI no := by
      rw [gI_uJ, gI_i c.t.1, if_neg (by omega), gI_i c.t.1, if_neg (by omega), gI_i c.t.1, if_neg (by omega)]; exact c.O.1
    simp only [h, if_true, r_b3_0 t0 hb, sb15 t0 hb h, r_b3_1 t1 hb, sb16 t1 hb h, r_b3_2 t2 hb, sb17 t2 hb h, r_b3_3 t3 hb, sb18 t3 hb h, g4, nI_1, opD]
  · simp only [h, if_false]
