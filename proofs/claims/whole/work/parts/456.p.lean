/-! the pure part: connected cells -/
variable {S S0 S1 S2 S' S'' S3 X : St} {ad : Nat → Nat} {b d j k : Nat} {v v0 v' v1 v2 u w : Nat → Int64} {np nf no mo no' mo' x y : Nat}
theorem lp_ex2 {κ σ β : Type} (ap : κ → Nat → σ → Option β) (bot : κ) (bd : κ → κ) (N : Nat) (J : Nat → σ → Prop) (G : Option β → Prop) (h1 : ∀ k i s, i < N → J i s → G (ap (bd k) i s) ∨ ∃ s', J (i + 1) s' ∧ ap (bd k) i s = ap k (i + 1) s') (h2 : ∀ k s, J N s → G (ap (bd k) N s)) : ∀ (m fuel i : Nat) (s : σ), i + m = N → J i s → m < fuel → G (ap (lp bot bd fuel) i s) := by
  intro m
  induction m with
  | zero =>
    intro fuel i s hi hJ hf
    obtain ⟨F, rfl⟩ : ∃ F', fuel = F' + 1 := ⟨fuel - 1, by omega⟩
    have : i = N := by omega
    subst this
    rw [lp_s]; exact h2 _ _ hJ
  | succ m ih =>
    intro fuel i s hi hJ hf
    obtain ⟨F, rfl⟩ : ∃ F', fuel = F' + 1 := ⟨fuel - 1, by omega⟩
    rw [lp_s]
    rcases h1 (lp bot bd F) i s (by omega) hJ with h | ⟨s', hs, h⟩
    · exact h
    · rw [h]; exact ih F (i + 1) s' (by omega) hs (by omega)
def adj (c d : Nat) : Prop := (d + 1 = c ∧ c % 30 ≠ 0) ∨ (d = c + 1 ∧ c % 30 ≠ 29) ∨ d + 30 = c ∨ d = c + 30
theorem adj_sym {c d : Nat} (h : adj c d) : adj d c := by unfold adj at *; omega
def Cls (O : Nat → Prop) (c0 : Nat) (T : Nat → Prop) : Prop := T c0 ∧ ∀ c d, c < 900 → d < 900 → T c → adj c d → O d → T d
def Mns (O : Nat → Prop) (c0 : Nat) (T : Nat → Prop) : Prop := ∀ U : Nat → Prop, Cls O c0 U → ∀ c, c < 900 → T c → U c
def nzR (R : Nat → Int32) (c : Nat) : Prop := R c ≠ 0
def cnt (R : Nat → Int32) : Nat := sm (fun c => if R c = 0 then 0 else 1) 900
theorem sm_upd {g h : Nat → Nat} {d : Nat} : ∀ n, d < n → (∀ i, i < n → i ≠ d → g i = h i) → sm g n + h d = sm h n + g d := by
  intro n
  induction n with
  | zero => intro h; omega
  | succ n ih =>
    intro hd e
    rw [sm, sm]
    by_cases hn : d = n
    · subst hn
      rw [sm_congr d fun i hi => e i (by omega) (by omega)]; omega
    · have := ih (by omega) (fun i hi => e i (by omega))
      have := e n (by omega) (fun h => hn h.symm)
      omega
theorem cnt_up {R : Nat → Int32} {c : Nat} (hc : c < 900) (h : R c = 0) : cnt (udt R c 1) = cnt R + 1 := by
  have := sm_upd (g := fun i => if udt R c 1 i = 0 then 0 else 1) (h := fun i => if R i = 0 then 0 else 1) 900 hc (fun i _ hi => by show (if udt R c 1 i = 0 then 0 else 1) = _; rw [udt_n hi])
  simp only [udt_e, h, if_true, show ((1 : Int32) = 0) = False by decide, if_false] at this
  unfold cnt; omega
theorem cnt_le (R : Nat → Int32) : cnt R ≤ 900 := sm_bd 900 (fun i _ => by show (if R i = 0 then 0 else 1) ≤ 1; by_cases h : R i = 0 <;> simp [h])
theorem cnt_lt {R : Nat → Int32} {c : Nat} (hc : c < 900) (h : R c = 0) : cnt R < 900 := by
  have := cnt_up hc h
  have := cnt_le (udt R c 1)
  omega
theorem cnt_congr {R Q : Nat → Int32} (h : ∀ c, c < 900 → (nzR R c ↔ nzR Q c)) : cnt R = cnt Q := by
  refine sm_congr 900 fun c hc => ?_
  have := h c hc
  unfold nzR at this
  by_cases h1 : R c = 0
  · by_cases h2 : Q c = 0
    · simp [h1, h2]
    · exact absurd (this.mpr h2) (by simp [h1])
  · simp [h1, this.mp h1]
theorem cnt_0 {R : Nat → Int32} (h : ∀ c, c < 900 → R c = 0) : cnt R = 0 := sm_zero 900 (fun c hc => by show (if R c = 0 then 0 else 1) = 0; rw [if_pos (h c hc)])
/-- the answer of a connectedness -/
def CW (O : Nat → Prop) (w : Bool) : Prop := ((∀ c, c < 900 → ¬ O c) ∧ w = false) ∨ ∃ c0 R, c0 < 900 ∧ O c0 ∧ (∀ c, c < c0 → ¬ O c) ∧ Cls O c0 (nzR R) ∧ Mns O c0 (nzR R) ∧ w = decide (cnt R = sm (fun c => @ite Nat (O c) (Classical.propDecidable _) 1 0) 900)
theorem CW_one {O : Nat → Prop} {w w' : Bool} (h : CW O w) (h' : CW O w') : w = w' := by
  rcases h with ⟨h1, h2⟩ | ⟨c0, R, h1, h2, h3, h4, h5, h6⟩
  · rcases h' with ⟨g1, g2⟩ | ⟨c1, Q, g1, g2, g3, g4, g5, g6⟩
    · rw [h2, g2]
    · exact absurd g2 (h1 c1 g1)
  · rcases h' with ⟨g1, g2⟩ | ⟨c1, Q, g1, g2, g3, g4, g5, g6⟩
    · exact absurd h2 (g1 c0 h1)
    · have e : c0 = c1 := by
        rcases Nat.lt_trichotomy c0 c1 with h | h | h
        · exact absurd h2 (g3 c0 h)
        · exact h
        · exact absurd g2 (h3 c1 h)
      subst e
      rw [h6, g6, cnt_congr (fun c hc => ⟨h5 _ g4 c hc, g5 _ h4 c hc⟩)]
theorem CW_congr {O O' : Nat → Prop} {w : Bool} (e : ∀ c, O c ↔ O' c) (h : CW O w) : CW O' w := by
  have : O = O' := funext fun c => propext (e c)
  rw [← this]; exact h
/-! neighbours -/
def dL (c : Nat) : Option Nat := if c % 30 = 0 then none else some (c - 1)
def dR (c : Nat) : Option Nat := if c % 30 = 29 then none else some (c + 1)
def dU (c : Nat) : Option Nat := if c < 30 then none else some (c - 30)
def dD (c : Nat) : Option Nat := if 870 ≤ c then none else some (c + 30)
def Dir (q u : Int32) (o : Option Nat) : Prop := (o = none ∧ (vin q 30 && vin u 30) = false) ∨ ∃ d, o = some d ∧ d < 900 ∧ q = nI (d % 30) ∧ u = nI (d / 30)
theorem vin_m1 : vin (nI 0 - 1) 30 = false := by decide
theorem vin_30 : vin (nI 29 + 1) 30 = false := by decide
theorem Dir_L {c : Nat} (hc : c < 900) : Dir (nI (c % 30) - 1) (nI (c / 30)) (dL c) := by
  unfold dL
  by_cases h : c % 30 = 0
  · rw [if_pos h, h]; exact Or.inl ⟨rfl, by rw [vin_m1]; rfl⟩
  · rw [if_neg h]
    refine Or.inr ⟨c - 1, rfl, by omega, ?_, by rw [show (c - 1) / 30 = c / 30 by omega]⟩
    rw [show (1 : Int32) = nI 1 from rfl, nI_sub (by omega)]
    rw [show c % 30 - 1 = (c - 1) % 30 by omega]
theorem Dir_R {c : Nat} (hc : c < 900) : Dir (nI (c % 30) + 1) (nI (c / 30)) (dR c) := by
  unfold dR
  by_cases h : c % 30 = 29
  · rw [if_pos h, h]; exact Or.inl ⟨rfl, by rw [vin_30]; rfl⟩
  · rw [if_neg h]
    refine Or.inr ⟨c + 1, rfl, by omega, ?_, by rw [show (c + 1) / 30 = c / 30 by omega]⟩
    rw [nI_1, show c % 30 + 1 = (c + 1) % 30 by omega]
theorem Dir_U {c : Nat} (hc : c < 900) : Dir (nI (c % 30)) (nI (c / 30) - 1) (dU c) := by
  unfold dU
  by_cases h : c < 30
  · rw [if_pos h, show c / 30 = 0 by omega]; exact Or.inl ⟨rfl, by rw [vin_m1]; simp⟩
  · rw [if_neg h]
    refine Or.inr ⟨c - 30, rfl, by omega, by rw [show (c - 30) % 30 = c % 30 by omega], ?_⟩
    rw [show (1 : Int32) = nI 1 from rfl, nI_sub (by omega), show c / 30 - 1 = (c - 30) / 30 by omega]
theorem Dir_D {c : Nat} (hc : c < 900) : Dir (nI (c % 30)) (nI (c / 30) + 1) (dD c) := by
  unfold dD
  by_cases h : 870 ≤ c
  · rw [if_pos h, show c / 30 = 29 by omega]; exact Or.inl ⟨rfl, by rw [vin_30]; simp⟩
  · rw [if_neg h]
    refine Or.inr ⟨c + 30, rfl, by omega, by rw [show (c + 30) % 30 = c % 30 by omega], ?_⟩
    rw [nI_1, show c / 30 + 1 = (c + 30) / 30 by omega]
theorem adj_iff {c e : Nat} (hc : c < 900) : (e < 900 ∧ adj c e) ↔ (dL c = some e ∨ dR c = some e ∨ dU c = some e ∨ dD c = some e) := by
  unfold dL dR dU dD adj
  by_cases h1 : c % 30 = 0 <;> by_cases h2 : c % 30 = 29 <;> by_cases h3 : c < 30 <;> by_cases h4 : 870 ≤ c <;> simp only [h1, h2, h3, h4, if_true, if_false, Option.some.injEq, reduceCtorEq, false_or, or_false] <;> omega
/-! the ledger's search -/
def GA (S : St) (a0 a1 a2 a3 : Nat) : Prop := gR S a0 0 = a1 ∧ gR S a0 1 = a2 ∧ gR S a0 2 = a3 ∧ gN S a1 = 900 ∧ gN S a2 = 900 ∧ gN S a3 = 900 ∧ a0 ≠ a1 ∧ a0 ≠ a2 ∧ a0 ≠ a3 ∧ a1 ≠ a2 ∧ a1 ≠ a3 ∧ a2 ≠ a3
abbrev QS : Type := (Nat → Int32) × (Nat → Int32) × Nat
def gst (S : St) (a0 a2 a3 : Nat) (s : QS) : St := uI (qI (qI S a2 s.2.1) a3 s.1) a0 3 (nI s.2.2)
theorem St_I {X Y : St} (h : ∀ b j, gI X b j = gI Y b j) (h2 : X.2 = Y.2) : X = Y := Prod.ext (funext fun b => funext fun j => h b j) h2
section
variable {a0 a1 a2 a3 : Nat} {s : QS}
theorem gst_I (b j : Nat) : gI (gst S a0 a2 a3 s) b j = if b = a0 ∧ j = 3 then nI s.2.2 else if b = a3 then s.1 j else if b = a2 then s.2.1 j else gI S b j := by
  unfold gst; rw [gI_uI, gI_qI, gI_qI]
theorem gst_R (b j : Nat) : gR (gst S a0 a2 a3 s) b j = gR S b j := rfl
theorem gst_N (b : Nat) : gN (gst S a0 a2 a3 s) b = gN S b := rfl
theorem gst_1 (h : GA S a0 a1 a2 a3) (i : Nat) : gI (gst S a0 a2 a3 s) a1 i = gI S a1 i := by
  rw [gst_I, if_neg (fun e => h.2.2.2.2.2.2.1 e.1.symm), if_neg h.2.2.2.2.2.2.2.2.2.2.1, if_neg h.2.2.2.2.2.2.2.2.2.1]
theorem gst_2 (h : GA S a0 a1 a2 a3) (i : Nat) : gI (gst S a0 a2 a3 s) a2 i = s.2.1 i := by
  rw [gst_I, if_neg (fun e => h.2.2.2.2.2.2.2.1 e.1.symm), if_neg h.2.2.2.2.2.2.2.2.2.2.2, if_pos rfl]
theorem gst_3 (h : GA S a0 a1 a2 a3) (i : Nat) : gI (gst S a0 a2 a3 s) a3 i = s.1 i := by
  rw [gst_I, if_neg (fun e => h.2.2.2.2.2.2.2.2.1 e.1.symm), if_pos rfl]
theorem gst_0 : gI (gst S a0 a2 a3 s) a0 3 = nI s.2.2 := by rw [gst_I, if_pos ⟨rfl, rfl⟩]
def rch (O : Nat → Prop) [DecidablePred O] (s : QS) (c : Nat) : QS := if O c ∧ s.1 c = 0 then (udt s.1 c 1, udt s.2.1 s.2.2 (nI c), s.2.2 + 1) else s
def rcO (O : Nat → Prop) [DecidablePred O] (s : QS) : Option Nat → QS
  | none => s
  | some c => rch O s c
theorem G_bel (h : GA S a0 a1 a2 a3) (p : Int32) {c : Nat} (hc : c < 900) : f_X3_belongs (gst S a0 a2 a3 s) a0 p (nI (c % 30)) (nI (c / 30)) = some (bI (decide (gI S a1 c = p))) := by
  rw [G_belongs (a1 := a1) (by rw [gst_R]; exact h.1) (by rw [gst_N]; exact h.2.2.2.1) p (show c % 30 < 30 by omega) (show c / 30 < 30 by omega), show 30 * (c / 30) + c % 30 = c by omega, gst_1 h]
theorem G_reach (h : GA S a0 a1 a2 a3) (p : Int32) {c : Nat} (hc : c < 900) (hn : gI S a1 c = p → s.1 c = 0 → s.2.2 < 900) (hm : s.2.2 ≤ 900) : f_X3_reach (gst S a0 a2 a3 s) a0 p (nI (c % 30)) (nI (c / 30)) = some (gst S a0 a2 a3 (rch (fun c => gI S a1 c = p) s c)) := by
  unfold f_X3_reach
  rw [G_bel h p hc, cl_n]
  simp only [if_bI]
  by_cases hp : gI S a1 c = p
  · rw [decide_eq_true hp, if_pos rfl, lt_n, gst_0]
    by_cases h0 : s.1 c = 0
    · have hlt := hn hp h0
      have h9 : nI s.2.2 < 900 := by rw [show (900 : Int32) = nI 900 from rfl, Int32.lt_iff_toInt_lt, nI_toInt (by omega), nI_toInt (by omega)]; omega
      rw [if_pos h9, lt_n, um30, nI_add, show c / 30 * 30 + c % 30 = c by omega, lt_n, gst_R, h.2.2.1, ldI_at (by rw [gst_N, h.2.2.2.2.2.1]; exact hc) (by rw [gst_N, h.2.2.2.2.2.1]; decide), gst_3 h, if_pos h0, lt_n, stI_at (by rw [gst_N, h.2.2.2.2.2.1]; exact hc) (by rw [gst_N, h.2.2.2.2.2.1]; decide), lt_n]
      rw [show gR (uI (gst S a0 a2 a3 s) a3 c 1) a0 1 = a2 from h.2.1, lt_n]
      have e3 : gI (uI (gst S a0 a2 a3 s) a3 c 1) a0 3 = nI s.2.2 := by rw [gI_uI, if_neg (fun e => h.2.2.2.2.2.2.2.2.1 e.1)]; exact gst_0
      rw [e3, stI_at (by show _ < gN S a2; rw [h.2.2.2.2.1]; exact hlt) (by show gN S a2 < _; rw [h.2.2.2.2.1]; decide), lt_n]
      have e4 : gI (uI (uI (gst S a0 a2 a3 s) a3 c 1) a2 s.2.2 (nI c)) a0 3 = nI s.2.2 := by rw [gI_uI, if_neg (fun e => h.2.2.2.2.2.2.2.1 e.1)]; exact e3
      rw [e4, lt_n, nI_1, rch, if_pos ⟨hp, h0⟩]
      congr 1
      refine St_I (fun bb jj => ?_) rfl
      rw [gI_uI, gI_uI, gI_uI, gst_I, gst_I]
      by_cases k0 : bb = a0 ∧ jj = 3
      · rw [if_pos k0, if_pos k0]
      · rw [if_neg k0, if_neg k0, if_neg k0]
        by_cases k3 : bb = a3
        · subst k3
          rw [if_neg (fun e => h.2.2.2.2.2.2.2.2.2.2.2 e.1.symm), if_pos rfl, if_pos rfl]
          by_cases kj : jj = c
          · rw [if_pos ⟨rfl, kj⟩, kj]; exact (udt_e _ _ _).symm
          · rw [if_neg (fun e => kj e.2)]; exact (udt_n kj).symm
        · rw [if_neg k3, if_neg k3]
          by_cases k2 : bb = a2
          · subst k2
            rw [if_pos rfl, if_pos rfl]
            by_cases kj : jj = s.2.2
            · rw [if_pos ⟨rfl, kj⟩, kj]; exact (udt_e _ _ _).symm
            · rw [if_neg (fun e => kj e.2), if_neg (fun e => k3 e.1)]; exact (udt_n kj).symm
          · rw [if_neg k2, if_neg k2, if_neg (fun e => k2 e.1), if_neg (fun e => k3 e.1)]
    · have er : rch (fun c => gI S a1 c = p) s c = s := by rw [rch, if_neg (fun e => h0 e.2)]
      rw [er]
      by_cases h9 : nI s.2.2 < 900
      · rw [if_pos h9, lt_n, um30, nI_add, show c / 30 * 30 + c % 30 = c by omega, lt_n, gst_R, h.2.2.1, ldI_at (by rw [gst_N, h.2.2.2.2.2.1]; exact hc) (by rw [gst_N, h.2.2.2.2.2.1]; decide), gst_3 h, if_neg h0]
      · rw [if_neg h9]
  · rw [decide_eq_false hp, if_neg (by decide), rch, if_neg (fun e => hp e.1)]
theorem G_reachO (h : GA S a0 a1 a2 a3) (p : Int32) {q u : Int32} {o : Option Nat} (hd : Dir q u o) (hn : ∀ c, c < 900 → s.1 c = 0 → s.2.2 < 900) (hm : s.2.2 ≤ 900) : f_X3_reach (gst S a0 a2 a3 s) a0 p q u = some (gst S a0 a2 a3 (rcO (fun c => gI S a1 c = p) s o)) := by
  rcases hd with ⟨rfl, e⟩ | ⟨c, rfl, hc, rfl, rfl⟩
  · simp only [f_X3_reach, f_X3_belongs, C_contains, e, cl_s, jn_e, if_bI]
    rfl
  · exact G_reach h p hc (fun _ => hn c hc) hm
end
