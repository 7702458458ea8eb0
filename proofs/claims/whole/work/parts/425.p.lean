/-! the pure part: calls that change something -/
variable {S S1 S' S'' S3 : St} {ad : Nat → Nat} {b d j k : Nat} {v v' : Nat → Int64} {np nf no mo no' mo' : Nat}
def MPc (b p : Nat) : Prop := (16 ≤ p ∧ p ≤ 19) ∨ ∃ q, MQ2 q ∧ p = b + q
def MPr (p : Nat) : Prop := p = 3 ∨ (5 ≤ p ∧ p ≤ 7)
/-- what the ledger's side of a call keeps -/
def MK (S S1 : St) (ad : Nat → Nat) (b : Nat) (v v' : Nat → Int64) (np nf no' mo' : Nat) : Prop := Ch S S1 ad (MPc b) ∧ AXs S1 ad b v' nf no' mo' ∧ WF v' np nf no' mo' ∧ TE v v' nf ∧ (∀ i, 5054 ≤ i → v' i = v i) ∧ v' 3 = lN no' ∧ v' 0 = lN mo' ∧ no' ≤ 16 ∧ mo' ≤ 60 ∧ ∀ m, v 0 = lN m → m ≤ 60 → WS v nf m → WS v' nf mo'
/-- what the reference's side of a call keeps -/
def RK (S' S3 : St) (ad : Nat → Nat) (v' : Nat → Int64) : Prop := Ch S' S3 ad MPr ∧ gI S3 (ad 1) 2 = 0 ∧ gJ S3 (ad 3) = v'
theorem MK.cv (m : MK S S1 ad b v v' np nf no' mo') (c : CV S ad b v np nf no mo) : CV S1 ad b v' np nf no' mo' := by
  obtain ⟨hc, ax, w, ht, -, h3, h0, ho, hm, -⟩ := m
  have hb := c.2.1
  have nM : ∀ q, (q = 1 ∨ q = 4 ∨ (8 ≤ q ∧ q ≤ 11) ∨ q = 19 ∨ q = 20) → ¬ MPc b (b + q) := by
    rintro q hq (h | ⟨q', hq', h⟩)
    · omega
    · unfold MQ2 at hq'; omega
  refine ⟨⟨hc.t c.t, trivial, by rw [ht.1 1 (by omega)]; exact c.m.2.2.1, by rw [ht.1 2 (by omega)]; exact c.m.2.2.2.1, h3, h0, c.hp, c.hf, ho, hm⟩, c.2.1, (hc.1.1 _ _).trans c.r, w, ?_, ax.1, ax.2.1, ?_, ax.2.2.1, ax.2.2.2.1, ax.2.2.2.2⟩
  · exact AXT_w (fun i hi => ht.1 i (by omega)) c.hp (AXT_c (fun q hq => hc.2.1 _ (by omega) (nM q (by omega))) c.T)
  · exact AXN_w ht.2 (AXN_c (fun q hq => hc.2.1 _ (by omega) (nM q (by omega))) c.N)
theorem MK.mv (m : MK S S1 ad b v v' np nf no' mo') (hb : b = 40 ∨ b = 80) (h : Mv S ad v np nf no mo) : Mv S1 ad v np nf no mo := by
  refine ⟨m.1.t h.1, ?_, h.2.2⟩
  rw [← h.2.1]
  funext i
  refine (m.1.2.1 3 (by decide) ?_ i).2
  rintro (h | ⟨q', hq', h⟩) <;> omega
theorem RE_fin (r : RE S ad b d j k v np nf no mo) (m : MK S S1 ad b v v' np nf no' mo') (z : Int64) (rk : RK (uJ S1 (ad 2) 0 z) S3 ad v') : RE S3 ad b d j k v' np nf no' mo' := by
  have hB := r.1.2.1
  have t1 := m.1.t r.1.t
  obtain ⟨hc, ax, w, ht, hb, h3, h0, ho, hm, hws⟩ := m
  obtain ⟨rc, -, rv⟩ := rk
  have c2 : Ch S1 (uJ S1 (ad 2) 0 z) ad (fun p => p = 2) := Ch_uJ t1 rfl
  have c3 := c2.trans rc
  have hag : ∀ q, BR q → Ag S1 S3 ad (b + q) := fun q hq => c3.2.1 _ (by omega) (by unfold MPr; omega)
  have hx := AXs_c hag ax
  refine RE_mut r ((hc.trans c3).mono ?_) rv hb ht h3 h0 ho hm w (hws mo r.1.m.2.2.2.2.2.1 r.1.hm r.ws) hx.1 hx.2.1 hx.2.2.1 hx.2.2.2.1 hx.2.2.2.2
  unfold MPc MPr MP2
  rintro p ((h | ⟨q, hq, h⟩) | h | h)
  · omega
  · exact Or.inr (Or.inr (Or.inr (Or.inr (Or.inr ⟨q, hq, h⟩))))
  · omega
  · omega
/-- where the month stays -/
theorem WS_k (c : CV S ad b v np nf no mo) (h : ∀ f q, f < nf → 5 ≤ q ∧ q ≤ 7 → v' (58 + 16 * f + q) = v (58 + 16 * f + q)) (h11 : v' 11 = v 11) : ∀ m, v 0 = lN m → m ≤ 60 → WS v nf m → WS v' nf mo := fun m e hm w => by
  have hm2 := c.hm
  rw [c.m.2.2.2.2.2.1, lN_eq (by omega) (by omega)] at e
  subst e
  exact WS_w h h11 w
theorem MK.rf (c : CV S ad b v np nf no mo) : MK S S ad b v v np nf no mo := ⟨Ch.rf, ⟨c.G, c.O, c.F, c.R, c.B⟩, c.w, ⟨fun _ _ => rfl, fun _ _ => rfl⟩, fun _ _ => rfl, c.m.2.2.2.2.1, c.m.2.2.2.2.2.1, c.ho, c.hm, WS_k c (fun _ _ _ _ => rfl) rfl⟩
theorem RK.rf (h : Mv S' ad v np nf no mo) : RK S' (uI S' (ad 1) 2 0) ad v := ⟨Ch_t h.1, by rw [gI_uI, if_pos ⟨rfl, rfl⟩], by rw [← h.2.1]; rfl⟩
theorem RK.thr (rk : RK S' S3 ad v') : f_X12_thrown S3 (ad 1) = some 0 := by simp [f_X12_thrown, lt_e, rk.2.1]
theorem RK.ld (t1 : TR S1 ad) {z : Int64} (rk : RK (uJ S1 (ad 2) 0 z) S3 ad v') {β : Type} {k : Int64 → Option β} : ldJ S3 (ad 2) 0 k = k z := by
  have t3 : TR S3 ad := rk.1.t (TR_SR0 (SR0_uJ _ _ _ _) t1)
  refine (ldJ_at (n := 0) (by rw [n_2 t3]; decide) (by rw [n_2 t3]; decide)).trans ?_
  rw [(rk.1.2.1 2 (by decide) (by unfold MPr; omega) 0).2, gJ_uJ, if_pos ⟨rfl, rfl⟩]
/-- a call that may change something -/
def QM {α : Type} (S : St) (ad : Nat → Nat) (b : Nat) (v : Nat → Int64) (np nf no mo : Nat) (es : List (Nat × Int32)) (X : Option ((α × St) ⊕ Nat)) (Y : St → Option (α × St)) : Prop :=
  (∃ w S1 v' no' mo', X = some (.inl (w, S1)) ∧ MK S S1 ad b v v' np nf no' mo' ∧ ∀ S', Mv S' ad v np nf no mo → ∃ S3, Y S' = some (w, S3) ∧ RK S' S3 ad v') ∨
  (∃ e z, (e, z) ∈ es ∧ X = some (.inr e) ∧ ∀ S', Mv S' ad v np nf no mo → ∃ u, Y S' = some (u, uI S' (ad 1) 2 z))
/-! the reference's stores -/
theorem Mv_3 (h : Mv S ad v np nf no mo) {k : Nat} {w : Int64} (hk : 4 ≤ k) : Mv (uJ S (ad 3) k w) ad (udt v k w) np nf no mo := by
  obtain ⟨t, e, h1, h2, h3, h0, hh⟩ := h
  exact ⟨TR_SR0 (SR0_uJ _ _ _ _) t, gJ_u3 e, by rw [udt_n (by omega)]; exact h1, by rw [udt_n (by omega)]; exact h2, by rw [udt_n (by omega)]; exact h3, by rw [udt_n (by omega)]; exact h0, hh⟩
theorem i_fq {f q : Nat} {i : Int32} (e : i = nI q) : 58 + 16 * nI f + i = nI (58 + 16 * f + q) := by rw [e, mu16, ad58, nI_add]
theorem M_set (h : Mv S ad v np nf no mo) {f q : Nat} {i : Int32} {w : Int64} (hf : f < 8) (hq : q < 16) (e : i = nI q) : f_X12_set S (ad 1) (nI f) i w = some (uJ S (ad 3) (58 + 16 * f + q) w) := by
  simp only [f_X12_set, lt_e, r_1_0 h.1]
  rw [i_fq e, stJ_at (by rw [n_3 h.1]; omega) (by rw [n_3 h.1]; decide)]
theorem M_add (h : Mv S ad v np nf no mo) {f q : Nat} {i : Int32} {w : Int64} (hf : f < 8) (hq : q < 16) (e : i = nI q) : f_X12_add S (ad 1) (nI f) i w = some (uJ S (ad 3) (58 + 16 * f + q) (v (58 + 16 * f + q) + w)) := by
  simp only [f_X12_add, lt_e, r_1_0 h.1]
  rw [i_fq e, ldS h (by omega), stJ_at (by rw [n_3 h.1]; omega) (by rw [n_3 h.1]; decide)]
theorem RK_3 (rk : RK S' S3 ad v) (t : TR S' ad) {k : Nat} {w : Int64} : RK S' (uJ S3 (ad 3) k w) ad (udt v k w) := ⟨rk.1.tr (Ch_uJ (rk.1.t t) (Or.inl rfl)), rk.2.1, gJ_u3 rk.2.2⟩
theorem udt_f {f f0 q q0 : Nat} {w : Int64} (hq : q < 16) (hq0 : q0 < 16) : udt v (58 + 16 * f0 + q0) w (58 + 16 * f + q) = if f = f0 ∧ q = q0 then w else v (58 + 16 * f + q) := by
  unfold udt
  by_cases h : f = f0 ∧ q = q0
  · rw [if_pos h, if_pos (by omega)]
  · rw [if_neg h, if_neg (by omega)]
theorem udt_lo {f q i : Nat} {w : Int64} (hi : i < 58) : udt v (58 + 16 * f + q) w i = v i := udt_n (by omega)
theorem udt_hi {f q i : Nat} {w : Int64} (hf : f < 8) (hq : q < 16) (hi : 186 ≤ i) : udt v (58 + 16 * f + q) w i = v i := udt_n (by omega)
theorem gI_n (t : TR S ad) (p i q l : Nat) (w : Int32) : gI (uI S (ad p) i w) (ad q) l = if q = p ∧ l = i then w else gI S (ad q) l := by
  rw [gI_uI]
  by_cases h : q = p
  · by_cases h2 : l = i <;> simp [h, h2]
  · have : ¬ ad q = ad p := fun e => h ((t.1 _ _).mp e)
    simp [h, this]
theorem gJ_n (t : TR S ad) (p i q l : Nat) (w : Int64) : gJ (uJ S (ad p) i w) (ad q) l = if q = p ∧ l = i then w else gJ S (ad q) l := by
  rw [gJ_uJ]
  by_cases h : q = p
  · by_cases h2 : l = i <;> simp [h, h2]
  · have : ¬ ad q = ad p := fun e => h ((t.1 _ _).mp e)
    simp [h, this]
/-- a change of a franchisee's row alone -/
theorem MK_F (c : CV S ad b v np nf no mo) (hc : Ch S S1 ad (fun p => ∃ q, (21 ≤ q ∧ q ≤ 32) ∧ p = b + q)) (hv : ∀ i, (i < 58 ∨ 186 ≤ i) → v' i = v i) (hn : ∀ f q, f < nf → q = 0 ∨ (5 ≤ q ∧ q ≤ 8) → v' (58 + 16 * f + q) = v (58 + 16 * f + q)) (w : WF v' np nf no mo) (aF : AXF S1 ad b v' nf) (aR : AXR S1 ad b v' nf mo) : MK S S1 ad b v v' np nf no mo := by
  have hb := c.2.1
  have A : ∀ q, BR q → ¬ (21 ≤ q ∧ q ≤ 32) → Ag S S1 ad (b + q) := fun q _ hq2 => hc.2.1 _ (by omega) (by rintro ⟨q', hq', e⟩; omega)
  refine ⟨hc.mono ?_, ⟨?_, ?_, aF, aR, ?_⟩, w, ⟨fun i hi => hv i (by omega), fun f hf => hn f 0 hf (by omega)⟩, fun i hi => hv i (by omega), by rw [hv 3 (by omega)]; exact c.m.2.2.2.2.1, by rw [hv 0 (by omega)]; exact c.m.2.2.2.2.2.1, c.ho, c.hm, WS_k c (fun f q hf hq => hn f q hf (by omega)) (hv 11 (by omega))⟩
  · rintro p ⟨q, hq, e⟩
    exact Or.inr ⟨q, by unfold MQ2; omega, e⟩
  · exact AXG_w (fun i hi => hv i (by omega)) (AXG_c (A 12 (by unfold BR; omega) (by omega)) c.G)
  · exact AXO_w (fun i hi => hv i (by omega)) c.ho (AXO_c (fun q hq => A q (by unfold BR; omega) (by omega)) c.O)
  · exact AXB_w (fun i hi => hv i (by omega)) (fun f q hf hq => hn f q hf (by omega)) c.hf c.hm (AXB_c (fun q hq => A q (by unfold BR; omega) (by omega)) c.B)
/-- and of none of its cells that must keep within bounds -/
theorem MK_F2 (c : CV S ad b v np nf no mo) (hc : Ch S S1 ad (fun p => ∃ q, (21 ≤ q ∧ q ≤ 32) ∧ p = b + q)) (hv : ∀ i, (i < 58 ∨ 186 ≤ i) → v' i = v i) (hn : ∀ f q, f < nf → q = 0 ∨ q = 1 ∨ q = 5 ∨ q = 6 ∨ q = 7 ∨ q = 8 → v' (58 + 16 * f + q) = v (58 + 16 * f + q)) (aF : AXF S1 ad b v' nf) (aR : AXR S1 ad b v' nf mo) : MK S S1 ad b v v' np nf no mo :=
  MK_F c hc hv (fun f q hf hq => hn f q hf (by omega)) (WF_w (fun i hi => hv i (by omega)) (fun f q hf hq => hn f q hf (by omega)) (fun i hi => hv _ (by omega)) c.hp c.hf c.ho c.hm c.w) aF aR
/-! pay -/
theorem C_lower (c : CV S ad b v np nf no mo) {f : Nat} (hf : f < nf) (s : Int64) : f_X2_lowerBalance S (ad (b + 4)) (nI f) s = some (v (58 + 16 * f + 4) - s, uJ S (ad (b + 26)) f (v (58 + 16 * f + 4) - s)) := by
  have h8 := c.hf
  have t1 : TR (uJ S (ad (b + 26)) f (v (58 + 16 * f + 4) - s)) ad := TR_SR0 (SR0_uJ _ _ _ _) c.t
  simp only [f_X2_lowerBalance, lt_e, r_b4_7 c.t c.hb, lb26 c.t c.hb (show f < 8 by omega), sb26 c.t c.hb (show f < 8 by omega), ← (c.F f hf).2.2.2.1, r_b4_7 t1 c.hb, lb26 t1 c.hb (show f < 8 by omega), gJ_uJ, and_self, if_true]
theorem MK_bal (c : CV S ad b v np nf no mo) {f : Nat} (hf : f < nf) (x : Int64) : MK S (uJ S (ad (b + 26)) f x) ad b v (udt v (58 + 16 * f + 4) x) np nf no mo := by
  have h8 := c.hf
  have f8 : f < 8 := by omega
  refine MK_F2 c (Ch_uJ c.t ⟨26, by omega, rfl⟩) (fun i hi => ?_) (fun g q hg hq => ?_) (fun g hg => ?_) ?_
  · rcases hi with hi | hi
    · exact udt_lo hi
    · exact udt_hi f8 (by decide) hi
  · rw [udt_f (by omega) (by decide), if_neg (by omega)]
  · have a := c.F g hg
    simp only [gJ_n c.t, gI_uJ, udt_f (show (1 : Nat) < 16 by decide) (show (4 : Nat) < 16 by decide), udt_f (show (2 : Nat) < 16 by decide) (show (4 : Nat) < 16 by decide), udt_f (show (3 : Nat) < 16 by decide) (show (4 : Nat) < 16 by decide), udt_f (show (4 : Nat) < 16 by decide) (show (4 : Nat) < 16 by decide), udt_f (show (5 : Nat) < 16 by decide) (show (4 : Nat) < 16 by decide), udt_f (show (6 : Nat) < 16 by decide) (show (4 : Nat) < 16 by decide)]
    by_cases e : g = f <;> simp [e, a] <;> (subst e; simp [a])
  · exact AXR_w (fun g q hg hq => by rw [udt_f (by omega) (by decide), if_neg (by omega)]) (AXR_c (fun q hq => Ag_uJ c.t (by omega)) c.R)
