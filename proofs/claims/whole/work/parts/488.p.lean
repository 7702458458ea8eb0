/-! the pure part: a cleared business, a cleared block -/
variable {S S0 S1 S2 S' S'' S3 X Y : St} {ad : Nat → Nat} {b d j k : Nat} {v v0 v' v1 v2 u u0 u' w : Nat → Int64} {np nf no mo no' mo' x y : Nat}
theorem KCx_flI (t : TR S ad) {P : Nat → Prop} {p n : Nat} {w : Int32} (hP : P p) : KCx S (flI S (ad p) w n) ad P := ⟨SR0_flI _ _ _ _, fun q hn i => ⟨by rw [gI_flI, if_neg]; intro z; exact hn (((t.1 _ _).mp z.1) ▸ hP), rfl⟩⟩
theorem KCx_flJ (t : TR S ad) {P : Nat → Prop} {p n : Nat} {w : Int64} (hP : P p) : KCx S (flJ S (ad p) w n) ad P := ⟨SR0_flJ _ _ _ _, fun q hn i => ⟨rfl, by rw [gJ_flJ, if_neg]; intro z; exact hn (((t.1 _ _).mp z.1) ▸ hP)⟩⟩
def u00 : Nat → Int64 := fun i => if 250 ≤ i ∧ i < 1150 then -1 else 0
theorem u00_0 {i : Nat} (h : i < 250 ∨ 1150 ≤ i) : u00 i = 0 := if_neg (by omega)
theorem u00_1 {i : Nat} (h : 250 ≤ i ∧ i < 1150) : u00 i = -1 := if_pos h
theorem WF_00 : WF u00 0 0 0 0 := ⟨⟨⟨0, by omega, u00_0 (by omega)⟩, ⟨0, by omega, u00_0 (by omega)⟩, ⟨0, by omega, u00_0 (by omega)⟩, ⟨0, by omega, u00_0 (by omega)⟩, ⟨0, by omega, u00_0 (by omega)⟩, ⟨0, by omega, u00_0 (by omega)⟩⟩, fun p h => absurd h (by omega), fun f h => absurd h (by omega), fun o h => absurd h (by omega), fun c hc => Or.inl (u00_1 (by omega)), fun i hi => u00_0 (by omega), ⟨0, 0, 0, u00_0 (by omega), u00_0 (by omega), u00_0 (by omega), by omega, by omega, by omega⟩, fun k f h => absurd h (by omega)⟩
theorem WS_00 : WS u00 0 0 := ⟨fun f h => absurd h (by omega), 0, by omega, u00_0 (by omega)⟩
def ctS (S : St) (a : Nat) : St := uI (uI (uJ (uI (uI (uJ (uI (uI S a 4 0) a 5 0) a 6 0) a 7 0) a 8 0) a 9 0) a 10 0) a 11 0
theorem ctS_I {a i : Nat} (h : i = 4 ∨ i = 5 ∨ i = 7 ∨ i = 8 ∨ i = 10 ∨ i = 11) : gI (ctS S a) a i = 0 := by
  rcases h with rfl | rfl | rfl | rfl | rfl | rfl <;> simp [ctS, gI_uI, gI_uJ]
theorem ctS_J {a i : Nat} (h : i = 6 ∨ i = 9) : gJ (ctS S a) a i = 0 := by
  rcases h with rfl | rfl <;> simp [ctS, gJ_uI, gJ_uJ]
theorem ctS_k (t : TR S ad) : KCx S (ctS S (ad (d + 1))) ad (fun p => p = d + 1) := by
  unfold ctS
  have k1 : KCx S (uI S (ad (d + 1)) 4 0) ad (fun p => p = d + 1) := KCx_uI t rfl
  have k2 := k1.tr (KCx_uI (p := d + 1) (i := 5) (w := 0) (k1.t t) rfl)
  have k3 := k2.tr (KCx_uJ (p := d + 1) (i := 6) (w := 0) (k2.t t) rfl)
  have k4 := k3.tr (KCx_uI (p := d + 1) (i := 7) (w := 0) (k3.t t) rfl)
  have k5 := k4.tr (KCx_uI (p := d + 1) (i := 8) (w := 0) (k4.t t) rfl)
  have k6 := k5.tr (KCx_uJ (p := d + 1) (i := 9) (w := 0) (k5.t t) rfl)
  have k7 := k6.tr (KCx_uI (p := d + 1) (i := 10) (w := 0) (k6.t t) rfl)
  exact k7.tr (KCx_uI (p := d + 1) (i := 11) (w := 0) (k7.t t) rfl)
theorem C_clear (t : TR S ad) (hd : d = 40 ∨ d = 80) : ∃ S', f_X1_clear S (ad d) = some S' ∧ KCx S S' ad (fun p => d ≤ p ∧ p ≤ d + 38) ∧ DV S' ad d u00 0 0 0 := by
  have hb : BB d := by unfold BB; omega
  have c1 : f_X8_clear S (ad (d + 1)) = some (ctS S (ad (d + 1))) := by simp only [f_X8_clear, lt_n]; rfl
  have k1 := ctS_k (d := d) t
  have t1 := k1.t t
  have vI := fun i h => ctS_I (S := S) (a := ad (d + 1)) (i := i) h
  have vJ := fun i h => ctS_J (S := S) (a := ad (d + 1)) (i := i) h
  generalize ctS S (ad (d + 1)) = Z1 at c1 k1 t1 vI vJ
  obtain ⟨Z2, e2⟩ : ∃ Z, Z = flI Z1 (ad (d + 12)) (-1) 900 := ⟨_, rfl⟩
  have k2 : KCx Z1 Z2 ad (fun p => p = d + 12) := by rw [e2]; exact KCx_flI t1 rfl
  have t2 := k2.t t1
  obtain ⟨Z3, e3⟩ : ∃ Z, Z = uI Z2 (ad (d + 3)) 4 0 := ⟨_, rfl⟩
  have k3 : KCx Z2 Z3 ad (fun p => p = d + 3) := by rw [e3]; exact KCx_uI t2 rfl
  have t3 := k3.t t2
  obtain ⟨Z4, e4⟩ : ∃ Z, Z = uI Z3 (ad (d + 4)) 8 0 := ⟨_, rfl⟩
  have k4 : KCx Z3 Z4 ad (fun p => p = d + 4) := by rw [e4]; exact KCx_uI t3 rfl
  have t4 := k4.t t3
  obtain ⟨Z5, e5⟩ : ∃ Z, Z = flI Z4 (ad (d + 27)) 0 8 := ⟨_, rfl⟩
  have k5 : KCx Z4 Z5 ad (fun p => p = d + 27) := by rw [e5]; exact KCx_flI t4 rfl
  have t5 := k5.t t4
  obtain ⟨Z6, e6⟩ : ∃ Z, Z = flJ Z5 (ad (d + 35)) 0 64 := ⟨_, rfl⟩
  have k6 : KCx Z5 Z6 ad (fun p => p = d + 35) := by rw [e6]; exact KCx_flJ t5 rfl
  have t6 := k6.t t5
  obtain ⟨Z7, e7⟩ : ∃ Z, Z = flJ Z6 (ad (d + 36)) 0 8 := ⟨_, rfl⟩
  have k7 : KCx Z6 Z7 ad (fun p => p = d + 36) := by rw [e7]; exact KCx_flJ t6 rfl
  have t7 := k7.t t6
  obtain ⟨Z8, e8⟩ : ∃ Z, Z = flJ Z7 (ad (d + 37)) 0 8 := ⟨_, rfl⟩
  have k8 : KCx Z7 Z8 ad (fun p => p = d + 37) := by rw [e8]; exact KCx_flJ t7 rfl
  have t8 := k8.t t7
  obtain ⟨Z9, e9⟩ : ∃ Z, Z = flJ Z8 (ad (d + 38)) 0 3 := ⟨_, rfl⟩
  have k9 : KCx Z8 Z9 ad (fun p => p = d + 38) := by rw [e9]; exact KCx_flJ t8 rfl
  have t9 := k9.t t8
  obtain ⟨Z10, e10⟩ : ∃ Z, Z = uI Z9 (ad (d + 6)) 6 0 := ⟨_, rfl⟩
  have k10 : KCx Z9 Z10 ad (fun p => p = d + 6) := by rw [e10]; exact KCx_uI t9 rfl
  have t10 := k10.t t9
  have c2 : f_X3_clear Z1 (ad (d + 2)) = some Z2 := by rw [f_X3_clear, lt_n, r_b2_0 t1 hb, fill_I Z1 (ad (d + 12)) (-1) (n_b12 t1 hb) (by decide), cl_n, e2]
  have c5 : f_X10_clear Z4 (ad (d + 5)) = some Z5 := by rw [f_X10_clear, lt_n, r_b5_0 t4 hb, fill_I Z4 (ad (d + 27)) 0 (n_b27 t4 hb) (by decide), cl_n, e5]
  have c6 : f_X0_clear Z5 (ad (d + 6)) = some Z10 := by rw [f_X0_clear, lt_n, r_b6_2 t5 hb, fill_J Z5 (ad (d + 35)) 0 (n_b35 t5 hb) (by decide), cl_n, ← e6, lt_n, r_b6_3 t6 hb, fill_J Z6 (ad (d + 36)) 0 (n_b36 t6 hb) (by decide), cl_n, ← e7, lt_n, r_b6_4 t7 hb, fill_J Z7 (ad (d + 37)) 0 (n_b37 t7 hb) (by decide), cl_n, ← e8, lt_n, r_b6_5 t8 hb, fill_J Z8 (ad (d + 38)) 0 (n_b38 t8 hb) (by decide), cl_n, ← e9, lt_n, ← e10]
  have cA : f_X1_clear S (ad d) = some Z10 := by
    rw [f_X1_clear, lt_n, r_b0_0 t hb, c1, cl_n, lt_n, r_b0_1 t1 hb, c2, cl_n, lt_n, r_b0_2 t2 hb, lt_n, ← e3, lt_n, r_b0_3 t3 hb, lt_n, ← e4, lt_n, r_b0_4 t4 hb, c5, cl_n, lt_n, r_b0_5 t5 hb, c6, cl_n]
  have kA : KCx S Z10 ad (fun p => d ≤ p ∧ p ≤ d + 38) := ((((((((((k1.mono (Q := (fun p => d ≤ p ∧ p ≤ d + 38)) (fun p (z : p = d + 1) => by omega)).tr (k2.mono (Q := (fun p => d ≤ p ∧ p ≤ d + 38)) (fun p (z : p = d + 12) => by omega))).tr (k3.mono (Q := (fun p => d ≤ p ∧ p ≤ d + 38)) (fun p (z : p = d + 3) => by omega))).tr (k4.mono (Q := (fun p => d ≤ p ∧ p ≤ d + 38)) (fun p (z : p = d + 4) => by omega))).tr (k5.mono (Q := (fun p => d ≤ p ∧ p ≤ d + 38)) (fun p (z : p = d + 27) => by omega))).tr (k6.mono (Q := (fun p => d ≤ p ∧ p ≤ d + 38)) (fun p (z : p = d + 35) => by omega))).tr (k7.mono (Q := (fun p => d ≤ p ∧ p ≤ d + 38)) (fun p (z : p = d + 36) => by omega))).tr (k8.mono (Q := (fun p => d ≤ p ∧ p ≤ d + 38)) (fun p (z : p = d + 37) => by omega))).tr (k9.mono (Q := (fun p => d ≤ p ∧ p ≤ d + 38)) (fun p (z : p = d + 38) => by omega))).tr (k10.mono (Q := (fun p => d ≤ p ∧ p ≤ d + 38)) (fun p (z : p = d + 6) => by omega)))
  have g1 : Ag Z1 Z10 ad (d + 1) := (((((((((k2.2 (d + 1) (fun (z : d + 1 = d + 12) => by omega)).trans (k3.2 (d + 1) (fun (z : d + 1 = d + 3) => by omega))).trans (k4.2 (d + 1) (fun (z : d + 1 = d + 4) => by omega))).trans (k5.2 (d + 1) (fun (z : d + 1 = d + 27) => by omega))).trans (k6.2 (d + 1) (fun (z : d + 1 = d + 35) => by omega))).trans (k7.2 (d + 1) (fun (z : d + 1 = d + 36) => by omega))).trans (k8.2 (d + 1) (fun (z : d + 1 = d + 37) => by omega))).trans (k9.2 (d + 1) (fun (z : d + 1 = d + 38) => by omega))).trans (k10.2 (d + 1) (fun (z : d + 1 = d + 6) => by omega)))
  have g12 : Ag Z2 Z10 ad (d + 12) := ((((((((k3.2 (d + 12) (fun (z : d + 12 = d + 3) => by omega)).trans (k4.2 (d + 12) (fun (z : d + 12 = d + 4) => by omega))).trans (k5.2 (d + 12) (fun (z : d + 12 = d + 27) => by omega))).trans (k6.2 (d + 12) (fun (z : d + 12 = d + 35) => by omega))).trans (k7.2 (d + 12) (fun (z : d + 12 = d + 36) => by omega))).trans (k8.2 (d + 12) (fun (z : d + 12 = d + 37) => by omega))).trans (k9.2 (d + 12) (fun (z : d + 12 = d + 38) => by omega))).trans (k10.2 (d + 12) (fun (z : d + 12 = d + 6) => by omega)))
  have g3 : Ag Z3 Z10 ad (d + 3) := (((((((k4.2 (d + 3) (fun (z : d + 3 = d + 4) => by omega)).trans (k5.2 (d + 3) (fun (z : d + 3 = d + 27) => by omega))).trans (k6.2 (d + 3) (fun (z : d + 3 = d + 35) => by omega))).trans (k7.2 (d + 3) (fun (z : d + 3 = d + 36) => by omega))).trans (k8.2 (d + 3) (fun (z : d + 3 = d + 37) => by omega))).trans (k9.2 (d + 3) (fun (z : d + 3 = d + 38) => by omega))).trans (k10.2 (d + 3) (fun (z : d + 3 = d + 6) => by omega)))
  have g4 : Ag Z4 Z10 ad (d + 4) := ((((((k5.2 (d + 4) (fun (z : d + 4 = d + 27) => by omega)).trans (k6.2 (d + 4) (fun (z : d + 4 = d + 35) => by omega))).trans (k7.2 (d + 4) (fun (z : d + 4 = d + 36) => by omega))).trans (k8.2 (d + 4) (fun (z : d + 4 = d + 37) => by omega))).trans (k9.2 (d + 4) (fun (z : d + 4 = d + 38) => by omega))).trans (k10.2 (d + 4) (fun (z : d + 4 = d + 6) => by omega)))
  have g27 : Ag Z5 Z10 ad (d + 27) := (((((k6.2 (d + 27) (fun (z : d + 27 = d + 35) => by omega)).trans (k7.2 (d + 27) (fun (z : d + 27 = d + 36) => by omega))).trans (k8.2 (d + 27) (fun (z : d + 27 = d + 37) => by omega))).trans (k9.2 (d + 27) (fun (z : d + 27 = d + 38) => by omega))).trans (k10.2 (d + 27) (fun (z : d + 27 = d + 6) => by omega)))
  have g35 : Ag Z6 Z10 ad (d + 35) := ((((k7.2 (d + 35) (fun (z : d + 35 = d + 36) => by omega)).trans (k8.2 (d + 35) (fun (z : d + 35 = d + 37) => by omega))).trans (k9.2 (d + 35) (fun (z : d + 35 = d + 38) => by omega))).trans (k10.2 (d + 35) (fun (z : d + 35 = d + 6) => by omega)))
  have g36 : Ag Z7 Z10 ad (d + 36) := (((k8.2 (d + 36) (fun (z : d + 36 = d + 37) => by omega)).trans (k9.2 (d + 36) (fun (z : d + 36 = d + 38) => by omega))).trans (k10.2 (d + 36) (fun (z : d + 36 = d + 6) => by omega)))
  have g37 : Ag Z8 Z10 ad (d + 37) := ((k9.2 (d + 37) (fun (z : d + 37 = d + 38) => by omega)).trans (k10.2 (d + 37) (fun (z : d + 37 = d + 6) => by omega)))
  have g38 : Ag Z9 Z10 ad (d + 38) := (k10.2 (d + 38) (fun (z : d + 38 = d + 6) => by omega))
  have v12 : ∀ i, i < 900 → gI Z10 (ad (d + 12)) i = -1 := fun i hi => by rw [(g12 i).1, e2, gI_flI, if_pos ⟨rfl, hi⟩]
  have v3 : gI Z10 (ad (d + 3)) 4 = 0 := by rw [(g3 4).1, e3, gI_uI, if_pos ⟨rfl, rfl⟩]
  have v4 : gI Z10 (ad (d + 4)) 8 = 0 := by rw [(g4 8).1, e4, gI_uI, if_pos ⟨rfl, rfl⟩]
  have v27 : ∀ i, i < 8 → gI Z10 (ad (d + 27)) i = 0 := fun i hi => by rw [(g27 i).1, e5, gI_flI, if_pos ⟨rfl, hi⟩]
  have v35 : ∀ i, i < 64 → gJ Z10 (ad (d + 35)) i = 0 := fun i hi => by rw [(g35 i).2, e6, gJ_flJ, if_pos ⟨rfl, hi⟩]
  have v36 : ∀ i, i < 8 → gJ Z10 (ad (d + 36)) i = 0 := fun i hi => by rw [(g36 i).2, e7, gJ_flJ, if_pos ⟨rfl, hi⟩]
  have v37 : ∀ i, i < 8 → gJ Z10 (ad (d + 37)) i = 0 := fun i hi => by rw [(g37 i).2, e8, gJ_flJ, if_pos ⟨rfl, hi⟩]
  have v38 : ∀ i, i < 3 → gJ Z10 (ad (d + 38)) i = 0 := fun i hi => by rw [(g38 i).2, e9, gJ_flJ, if_pos ⟨rfl, hi⟩]
  have v6 : gI Z10 (ad (d + 6)) 6 = 0 := by rw [e10, gI_uI, if_pos ⟨rfl, rfl⟩]
  have wI : ∀ i, (i = 4 ∨ i = 5 ∨ i = 7 ∨ i = 8 ∨ i = 10 ∨ i = 11) → gI Z10 (ad (d + 1)) i = 0 := fun i h => (g1 i).1.trans (vI i h)
  have wJ : ∀ i, (i = 6 ∨ i = 9) → gJ Z10 (ad (d + 1)) i = 0 := fun i h => (g1 i).2.trans (vJ i h)
  refine ⟨Z10, cA, kA, ⟨kA.t t, trivial, u00_0 (by omega), u00_0 (by omega), u00_0 (by omega), u00_0 (by omega), by omega, by omega, by omega, by omega⟩, hd, WF_00, WS_00, ⟨wI 4 (by omega), by rw [wI 5 (by omega)]; exact u00_0 (by omega), by rw [wJ 6 (by omega)]; exact u00_0 (by omega), by rw [wI 7 (by omega)]; exact u00_0 (by omega), by rw [wI 8 (by omega)]; exact u00_0 (by omega), by rw [wJ 9 (by omega)]; exact u00_0 (by omega), by rw [wI 10 (by omega)]; exact u00_0 (by omega), by rw [wI 11 (by omega)]; exact u00_0 (by omega), fun q h => absurd h (by omega)⟩, fun i hi => by rw [v12 i hi]; exact u00_1 (by omega), ⟨v3, fun o h => absurd h (by omega)⟩, ⟨v4, fun f h => absurd h (by omega)⟩, fun f h => absurd h (by omega), fun f h => absurd h (by omega), ⟨v6, fun i hi => by rw [v35 i hi]; exact u00_0 (by omega), fun i hi => by rw [v38 i hi]; exact u00_0 (by omega), fun f h => absurd h (by omega), fun f _ h => v36 f h, fun k f h => absurd h (by omega), fun k f q h => absurd h (by omega)⟩, fun f q _ h1 h2 => u00_0 (by omega), fun q r _ h1 h2 => u00_0 (by omega), fun o h => absurd h (by omega), fun f hf => ⟨v27 f hf, v36 f hf, v37 f hf⟩⟩
/-! the reference clears a block -/
def clB2 (p0 : Nat) (p1 : Int32) (k6 : Int32 → St → Option St) (x4 : Int32) (S5 : St) : Option St := if 900 ≤ x4 then (some S5) else (lt (gR S5 p0 0) fun (a8 : Nat) => stJ S5 a8 (((5054 * p1) + 250) + x4) (-1) fun (S10 : St) => k6 (x4 + 1) S10)
def clU (p0 : Nat) (p1 : Int32) (S1 : St) : Option St := lp (κ := Int32 → St → Option (St)) (fun _ _ => none) (clB2 p0 p1) FU 0 S1
def clB1 (p0 : Nat) (p1 : Int32) (k13 : Int32 → St → Option St) (x11 : Int32) (S12 : St) : Option St := if 5054 ≤ x11 then (clU p0 p1 S12) else (lt (gR S12 p0 0) fun (a15 : Nat) => stJ S12 a15 ((5054 * p1) + x11) 0 fun (S17 : St) => k13 (x11 + 1) S17)
theorem clE (S : St) (p0 : Nat) (p1 : Int32) : f_X12_clearBlock S p0 p1 = lp (κ := Int32 → St → Option (St)) (fun _ _ => none) (clB1 p0 p1) FU 0 S := by
  unfold f_X12_clearBlock
  exact jn_n _ _
theorem g3u (h : gJ X (ad 3) = w) {k : Nat} (z : Int64) : gJ (uJ X (ad 3) k z) (ad 3) = udt w k z := gJ_u3 h
def cbv (v : Nat → Int64) (p : Nat) : Nat → Int64 := fun l => if 5054 * p ≤ l ∧ l < 5054 * p + 5054 then u00 (l - 5054 * p) else v l
theorem M_clr {p : Nat} {i1 : Int32} (t : TR X ad) (hv : gJ X (ad 3) = v) (hp : p < 4) (h1 : i1 = nI p) : ∃ X', f_X12_clearBlock X (ad 1) i1 = some X' ∧ RX X X' ad P3 P0 ∧ gJ X' (ad 3) = cbv v p := by
  subst h1
  rw [clE]
  have main : ∃ Z, lp (κ := Int32 → St → Option (St)) (fun _ _ => none) (clB1 (ad 1) (nI p)) FU 0 X = clU (ad 1) (nI p) Z ∧ RX X Z ad P3 P0 ∧ gJ Z (ad 3) = fun l => if 5054 * p ≤ l ∧ l < 5054 * p + 5054 then 0 else v l := by
    refine lp_ex (fun (k : Int32 → St → Option St) i (Z : St) => k (nI i) Z) (fun _ _ => none) (clB1 (ad 1) (nI p)) 5054 (fun i Z => RX X Z ad P3 P0 ∧ gJ Z (ad 3) = fun l => if 5054 * p ≤ l ∧ l < 5054 * p + i then 0 else v l) (fun r => ∃ Z, r = clU (ad 1) (nI p) Z ∧ RX X Z ad P3 P0 ∧ gJ Z (ad 3) = fun l => if 5054 * p ≤ l ∧ l < 5054 * p + 5054 then 0 else v l) ?_ ?_ 5054 FU 0 X (by omega) ⟨RX.rf, hv.trans (funext fun l => by rw [if_neg (by omega)])⟩ (show 5054 < 6000 by omega)
    · intro k i Z hi hJ
      have tZ := hJ.1.t t
      refine ⟨uJ Z (ad 3) (5054 * p + i) 0, ⟨hJ.1.tr (RX_uJ (P := P3) tZ rfl), ?_⟩, ?_⟩
      · rw [g3u hJ.2]
        funext l
        unfold udt
        by_cases e : l = 5054 * p + i
        · rw [if_pos e, if_pos (by omega)]
        · rw [if_neg e]
          show (if 5054 * p ≤ l ∧ l < 5054 * p + i then (0 : Int64) else v l) = _
          by_cases h : 5054 * p ≤ l ∧ l < 5054 * p + i
          · rw [if_pos h, if_pos (by omega)]
          · rw [if_neg h, if_neg (by omega)]
      · show clB1 (ad 1) (nI p) k (nI i) Z = k (nI (i + 1)) _
        unfold clB1
        rw [if_neg (ge5054 hi), lt_n, r_1_0 tZ, mu5054, nI_add, stJ_at (by rw [n_3 tZ]; omega) (by rw [n_3 tZ]; decide), da1]
    · intro k Z hJ
      refine ⟨Z, ?_, hJ⟩
      show clB1 (ad 1) (nI p) k (nI 5054) Z = _
      unfold clB1
      rw [if_pos le5054]
  obtain ⟨Z, m1, m2, m3⟩ := main
  have tZ := m2.t t
  have main2 : ∃ Z', clU (ad 1) (nI p) Z = some Z' ∧ RX X Z' ad P3 P0 ∧ gJ Z' (ad 3) = fun l => if 5054 * p + 250 ≤ l ∧ l < 5054 * p + 250 + 900 then -1 else if 5054 * p ≤ l ∧ l < 5054 * p + 5054 then 0 else v l := by
    unfold clU
    refine lp_ex (fun (k : Int32 → St → Option St) i (Z : St) => k (nI i) Z) (fun _ _ => none) (clB2 (ad 1) (nI p)) 900 (fun i Z => RX X Z ad P3 P0 ∧ gJ Z (ad 3) = fun l => if 5054 * p + 250 ≤ l ∧ l < 5054 * p + 250 + i then -1 else if 5054 * p ≤ l ∧ l < 5054 * p + 5054 then 0 else v l) (fun r => ∃ Z, r = some Z ∧ RX X Z ad P3 P0 ∧ gJ Z (ad 3) = fun l => if 5054 * p + 250 ≤ l ∧ l < 5054 * p + 250 + 900 then -1 else if 5054 * p ≤ l ∧ l < 5054 * p + 5054 then 0 else v l) ?_ ?_ 900 FU 0 Z (by omega) ⟨m2, m3.trans (funext fun l => by rw [if_neg (c := 5054 * p + 250 ≤ l ∧ l < 5054 * p + 250 + 0) (by omega)])⟩ (show 900 < 6000 by omega)
    · intro k i Z hi hJ
      have tZ := hJ.1.t t
      refine ⟨uJ Z (ad 3) (5054 * p + 250 + i) (-1), ⟨hJ.1.tr (RX_uJ (P := P3) tZ rfl), ?_⟩, ?_⟩
      · rw [g3u hJ.2]
        funext l
        unfold udt
        by_cases e : l = 5054 * p + 250 + i
        · rw [if_pos e, if_pos (by omega)]
        · rw [if_neg e]
          show (if 5054 * p + 250 ≤ l ∧ l < 5054 * p + 250 + i then (-1 : Int64) else if 5054 * p ≤ l ∧ l < 5054 * p + 5054 then 0 else v l) = _
          by_cases h : 5054 * p + 250 ≤ l ∧ l < 5054 * p + 250 + i
          · rw [if_pos h, if_pos (by omega)]
          · rw [if_neg h, if_neg (c := 5054 * p + 250 ≤ l ∧ l < 5054 * p + 250 + (i + 1)) (by omega)]
      · show clB2 (ad 1) (nI p) k (nI i) Z = k (nI (i + 1)) _
        unfold clB2
        rw [if_neg (ge900 hi), lt_n, r_1_0 tZ, mu5054, da250, nI_add, stJ_at (by rw [n_3 tZ]; omega) (by rw [n_3 tZ]; decide), da1]
    · intro k Z hJ
      refine ⟨Z, ?_, hJ⟩
      show clB2 (ad 1) (nI p) k (nI 900) Z = _
      unfold clB2
      rw [if_pos le900]
  obtain ⟨Z', n1, n2, n3⟩ := main2
  refine ⟨Z', m1.trans n1, n2, n3.trans (funext fun l => ?_)⟩
  unfold cbv u00
  by_cases h : 5054 * p ≤ l ∧ l < 5054 * p + 5054
  · rw [if_pos h, if_pos h]
    by_cases h2 : 5054 * p + 250 ≤ l ∧ l < 5054 * p + 250 + 900
    · rw [if_pos h2, if_pos (by omega)]
    · rw [if_neg h2, if_neg (by omega)]
  · rw [if_neg h, if_neg h, if_neg (by omega)]
theorem cbv_3 : cbv v 3 = dV v u00 := by
  funext l
  unfold cbv dV
  rw [show 5054 * 3 = 15162 by decide]
theorem RL_pre {B : Nat → Int32} {n : Nat} (h : MB S ad B n) (h9 : gI S (ad 1) 9 = nI n) (hv : gJ S (ad 3) = v) : ∃ XA X, f_X12_clearBlock (uI S (ad 1) 2 0) (ad 1) 3 = some XA ∧ f_X12_beginText XA (ad 1) = some X ∧ RS X ad B n 0 ∧ RX S X ad P3 Qb ∧ gJ X (ad 3) = dV v u00 ∧ gI X (ad 1) 11 = 0 ∧ gI X (ad 1) 12 = -1 := by
  have t := h.1
  have t1 : TR (uI S (ad 1) 2 0) ad := TR_SR0 (SR0_uI _ _ _ _) t
  have x0 : RX S (uI S (ad 1) 2 0) ad P3 Qb := RX_u1 t (by unfold Qb; omega)
  obtain ⟨XA, a1, a2, a3⟩ := M_clr (p := 3) (i1 := 3) t1 hv (by decide) rfl
  rw [cbv_3] at a3
  have x1 := x0.tr (a2.mono (fun _ z => z) (fun _ z => z.elim))
  obtain ⟨X, b1, b2, b3, b4, b5⟩ := R_begin (MB_c x1.1 (x1.2.1 9 (by decide) (by unfold P3; decide)) h) ((x1.2.2 9 (by unfold Qb Qf; omega)).trans h9)
  refine ⟨XA, X, a1, b1, b2, x1.tr (b3.mono (fun _ z => z.elim) (fun i z => by unfold Qb; unfold Qf at z ⊢; omega)), ?_, b4, b5⟩
  exact (funext fun l => (b3.2.1 3 (by decide) (fun z => z) l).2).trans a3
