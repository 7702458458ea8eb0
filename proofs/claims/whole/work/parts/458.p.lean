/-! the pure part: the reference's search -/
variable {S S0 S1 S2 S' S'' S3 X : St} {ad : Nat → Nat} {b d j k : Nat} {v v0 v' v1 v2 u w : Nat → Int64} {np nf no mo no' mo' x y : Nat}
theorem lp_wh {κ σ β : Type} (ap : κ → σ → Option β) (bot : κ) (bd : κ → κ) (μ : σ → Nat) (J : σ → Prop) (G : Option β → Prop) (h : ∀ k s, J s → (∀ s', J s' → μ s' < μ s → G (ap k s')) → G (ap (bd k) s)) : ∀ (n fuel : Nat) (s : σ), μ s < n → n ≤ fuel → J s → G (ap (lp bot bd fuel) s) := by
  intro n
  induction n with
  | zero => intro fuel s h1; omega
  | succ n ih =>
    intro fuel s h1 hf hJ
    obtain ⟨F, rfl⟩ : ∃ F', fuel = F' + 1 := ⟨fuel - 1, by omega⟩
    rw [lp_s]
    exact h _ s hJ fun s' hs' hm => ih F s' (by omega) (by omega) hs'
theorem Mv_qI (h : Mv S ad v np nf no mo) (a : Nat) (g : Nat → Int32) : Mv (qI S a g) ad v np nf no mo := ⟨TR_SR0 (SR0_qI _ _ _) h.1, h.2⟩
def rbR (R : Nat → Int32) (q u : Int32) : Bool := vin q 30 && vin u 30 && !decide (R (30 * u.toNatClampNeg + q.toNatClampNeg) = 0)
theorem M_isR (h : Mv S ad v np nf no mo) (R : Nat → Int32) (q u : Int32) : f_X12_isReached (qI S (ad 5) R) (ad 1) q u = some (bI (rbR R q u)) := by
  have t1 := (Mv_qI h (ad 5) R).1
  simp only [f_X12_isReached, M_isCell, cl_s, jn_e, if_bI, rbR, lt_e, r_1_3 t1]
  cases hB : (vin q 30 && vin u 30)
  · simp [bI]
  · rw [Bool.and_eq_true] at hB
    obtain ⟨x, hx, rfl⟩ := vin_of (by decide) hB.1
    obtain ⟨y, hy, rfl⟩ := vin_of (by decide) hB.2
    rw [mu30, nI_add, ldI_at (by rw [n_5 t1]; omega) (by rw [n_5 t1]; decide), gI_qI, if_pos rfl, if_pos rfl, nI_clamp (by omega), nI_clamp (by omega), Bool.true_and, bI_ifn]
theorem rbR_D {R : Nat → Int32} {q u : Int32} {o : Option Nat} (h : Dir q u o) : rbR R q u = true ↔ ∃ e, o = some e ∧ nzR R e := by
  rcases h with ⟨rfl, e⟩ | ⟨e, rfl, he, rfl, rfl⟩
  · rw [rbR, e]; simp
  · rw [rbR, vin_nI (by omega) (by decide), vin_nI (by omega) (by decide), nI_clamp (by omega), nI_clamp (by omega), show 30 * (e / 30) + e % 30 = e by omega]
    simp [nzR]
def rb4 (R : Nat → Int32) (c : Nat) : Bool := rbR R (nI (c % 30) - 1) (nI (c / 30)) || (rbR R (nI (c % 30) + 1) (nI (c / 30)) || (rbR R (nI (c % 30)) (nI (c / 30) - 1) || rbR R (nI (c % 30)) (nI (c / 30) + 1)))
theorem rb4_iff {R : Nat → Int32} {c : Nat} (hc : c < 900) : rb4 R c = true ↔ ∃ e, e < 900 ∧ adj c e ∧ nzR R e := by
  rw [rb4, Bool.or_eq_true, Bool.or_eq_true, Bool.or_eq_true, rbR_D (Dir_L hc), rbR_D (Dir_R hc), rbR_D (Dir_U hc), rbR_D (Dir_D hc)]
  constructor
  · rintro (⟨e, h1, h2⟩ | ⟨e, h1, h2⟩ | ⟨e, h1, h2⟩ | ⟨e, h1, h2⟩)
    · have := (adj_iff (e := e) hc).mpr (Or.inl h1); exact ⟨e, this.1, this.2, h2⟩
    · have := (adj_iff (e := e) hc).mpr (Or.inr (Or.inl h1)); exact ⟨e, this.1, this.2, h2⟩
    · have := (adj_iff (e := e) hc).mpr (Or.inr (Or.inr (Or.inl h1))); exact ⟨e, this.1, this.2, h2⟩
    · have := (adj_iff (e := e) hc).mpr (Or.inr (Or.inr (Or.inr h1))); exact ⟨e, this.1, this.2, h2⟩
  · rintro ⟨e, h1, h2, h3⟩
    rcases (adj_iff hc).mp ⟨h1, h2⟩ with h | h | h | h
    · exact Or.inl ⟨e, h, h3⟩
    · exact Or.inr (Or.inl ⟨e, h, h3⟩)
    · exact Or.inr (Or.inr (Or.inl ⟨e, h, h3⟩))
    · exact Or.inr (Or.inr (Or.inr ⟨e, h, h3⟩))
/-- one cell of a pass -/
def psS (O : Nat → Prop) (c : Nat) (s : Bool × (Nat → Int32)) : Prop := True
def JP (O : Nat → Prop) (c0 : Nat) (R : Nat → Int32) (i : Nat) (s : Bool × (Nat → Int32)) : Prop := nzR s.2 c0 ∧ Mns O c0 (nzR s.2) ∧ (s.1 = false → s.2 = R ∧ ∀ c, c < i → O c → R c = 0 → rb4 R c = false) ∧ (s.1 = true → cnt R < cnt s.2)
theorem JP_step {O : Nat → Prop} {c0 : Nat} {R : Nat → Int32} {i : Nat} {s : Bool × (Nat → Int32)} (hi : i < 900) (h : JP O c0 R i s) (hO : O i) (h0 : s.2 i = 0) (hr : rb4 s.2 i = true) : JP O c0 R (i + 1) (true, udt s.2 i 1) := by
  obtain ⟨h1, h2, h3, h4⟩ := h
  have up : ∀ c, nzR s.2 c → nzR (udt s.2 i 1) c := fun c hc => by
    unfold nzR at *
    by_cases hce : c = i
    · subst hce; rw [udt_e]; decide
    · rw [udt_n hce]; exact hc
  refine ⟨up _ h1, fun U hU c hc hn => ?_, fun e => (by cases e), fun _ => ?_⟩
  · by_cases hci : c = i
    · subst hci
      obtain ⟨e, he, ha, hz⟩ := (rb4_iff hi).mp hr
      exact hU.2 e c he hi (h2 U hU e he hz) (adj_sym ha) hO
    · have hn : udt s.2 i 1 c ≠ 0 := hn
      rw [udt_n hci] at hn
      exact h2 U hU c hc hn
  · show cnt R < cnt (udt s.2 i 1)
    rw [cnt_up hi h0]
    cases hs : s.1
    · rw [(h3 hs).1]; omega
    · have := h4 hs; omega
theorem JP_skip {O : Nat → Prop} {c0 : Nat} {R : Nat → Int32} {i : Nat} {s : Bool × (Nat → Int32)} (h : JP O c0 R i s) (hr : s.2 i ≠ 0 ∨ ¬ O i ∨ rb4 s.2 i = false) : JP O c0 R (i + 1) s := by
  obtain ⟨h1, h2, h3, h4⟩ := h
  refine ⟨h1, h2, fun e => ⟨(h3 e).1, fun c hc hO hz => ?_⟩, h4⟩
  by_cases hci : c = i
  · subst hci
    rw [(h3 e).1] at hr
    rcases hr with h | h | h
    · exact absurd hz h
    · exact absurd hO h
    · exact h
  · exact (h3 e).2 c (by omega) hO hz
theorem JP_end {O : Nat → Prop} {c0 : Nat} {R : Nat → Int32} (h : JP O c0 R 900 (false, R)) : Cls O c0 (nzR R) := by
  obtain ⟨h1, h2, h3, h4⟩ := h
  refine ⟨h1, fun c e hc he hz ha hO => fun h0 => ?_⟩
  have := (h3 rfl).2 e he hO h0
  have h5 := (rb4_iff (R := R) he).mpr ⟨c, hc, adj_sym ha, hz⟩
  rw [h5] at this; cases this
theorem M_conn (h : Mv S ad v np nf no mo) (p : Int32) : ∃ w R, f_X12_connected S (ad 1) p = some (bI w, qI S (ad 5) R) ∧ CW (fun c => v (250 + c) = p.toInt64) w := by
  have t := h.1
  have R3 : ∀ g, gR (qI S (ad 5) g) (ad 1) 3 = ad 5 := fun g => r_1_3 t
  have R0 : ∀ g, gR (qI S (ad 5) g) (ad 1) 0 = ad 3 := fun g => r_1_0 t
  have N5 : ∀ g, gN (qI S (ad 5) g) (ad 5) = 900 := fun g => n_5 t
  have scl : sm (own1 v p) 900 = sm (fun c => @ite Nat (v (250 + c) = p.toInt64) (Classical.propDecidable _) 1 0) 900 := sm_congr 900 fun c _ => by
    unfold own1
    by_cases hc : v (250 + c) = p.toInt64 <;> simp [hc]
  have fin : ∀ c0, c0 < 900 → v (250 + c0) = p.toInt64 → (∀ c, c < c0 → ¬ v (250 + c) = p.toInt64) → ∃ w R, (fun x1 => if x1 = 900 then (some (0, S)) else (jn (κ := St → Option (Int32 × St)) (fun S4 => lt (gR S4 (ad 1) 3) fun (a7 : Nat) => stI S4 a7 x1 (vp_nar .boolean 1) fun (S9 : St) => jn (κ := Int32 → St → Option (Int32 × St)) (fun x10 S11 => cl (f_X12_areaOf S11 (ad 1) p) fun (v14 : Int32) => if x10 = v14 then (some (1, S11)) else (some (0, S11))) fun k12 => lp (κ := Int32 → Int32 → St → Option (Int32 × St)) (fun _ _ _ => none) (fun k18 x15 x16 S17 => if x16 = 0 then (k12 x15 S17) else (jn (κ := Int32 → Int32 → St → Option (Int32 × St)) (fun x20 x21 S22 => k18 x20 x21 S22) fun k23 => lp (κ := Int32 → Int32 → Int32 → St → Option (Int32 × St)) (fun _ _ _ _ => none) (fun k29 x25 x26 x27 S28 => if 900 ≤ x27 then (k23 x25 x26 S28) else (lt (gR S28 (ad 1) 3) fun (a31 : Nat) => ldI S28 a31 x27 fun (v33 : Int32) => jn (κ := Int32 → Int32 → St → Option (Int32 × St)) (fun x34 x35 S36 => k29 x34 x35 (x27 + 1) S36) fun k37 => if v33 = 0 then (lt (gR S28 (ad 1) 0) fun (a39 : Nat) => ldJ S28 a39 (250 + x27) fun (v41 : Int64) => if v41 = (Int32.toInt64 p) then (lt (x27 - x27 / 30 * 30) fun (v42 : Int32) => lt (x27 / 30) fun (v43 : Int32) => cl (f_X12_isReached S28 (ad 1) (v42 - 1) v43) fun (v44 : Int32) => jn (κ := Option (Int32 × St)) (lt (gR S28 (ad 1) 3) fun (a47 : Nat) => stI S28 a47 x27 (vp_nar .boolean 1) fun (S49 : St) => k37 (x25 + 1) 1 S49) fun k45 => if v44 = 0 then (cl (f_X12_isReached S28 (ad 1) (v42 + 1) v43) fun (v50 : Int32) => if v50 = 0 then (cl (f_X12_isReached S28 (ad 1) v42 (v43 - 1)) fun (v51 : Int32) => if v51 = 0 then (cl (f_X12_isReached S28 (ad 1) v42 (v43 + 1)) fun (v52 : Int32) => if v52 = 0 then (k37 x25 x26 S28) else (k45)) else (k45)) else (k45)) else (k45)) else (k37 x25 x26 S28)) else (k37 x25 x26 S28))) FU x15 0 0 S17)) FU 1 1 S9) fun k5 => lp (κ := Int32 → St → Option (Int32 × St)) (fun _ _ => none) (fun k55 x53 S54 => if 900 ≤ x53 then (k5 S54) else (lt (gR S54 (ad 1) 3) fun (a57 : Nat) => stI S54 a57 x53 (vp_nar .boolean 0) fun (S59 : St) => k55 (x53 + 1) S59)) FU 0 S)) (nI c0) = some (bI w, qI S (ad 5) R) ∧ CW (fun c => v (250 + c) = p.toInt64) w := by
    intro c0 hc0 hO hfst
    show ∃ w R, (if nI c0 = 900 then _ else _) = some (bI w, qI S (ad 5) R) ∧ CW (fun c => v (250 + c) = p.toInt64) w
    rw [if_neg (by rw [show (900 : Int32) = nI 900 from rfl, nI_eq (by omega) (by omega)]; omega), jn_n]
    have clr : ∀ n, itr (fun i (g : Nat → Int32) => udt g i 0) 0 n (gI S (ad 5)) = fun i => if i < n then 0 else gI S (ad 5) i := by
      intro n
      induction n with
      | zero => rfl
      | succ n ih =>
        rw [itr_succ, ih, Nat.zero_add]
        funext i
        by_cases hi : i = n
        · subst hi; rw [udt_e, if_pos (by omega)]
        · rw [udt_n hi]
          by_cases h2 : i < n
          · rw [if_pos h2, if_pos (by omega)]
          · rw [if_neg h2, if_neg (by omega)]
    refine (show ∃ w R, _ = some (bI w, qI S (ad 5) R) ∧ CW (fun c => v (250 + c) = p.toInt64) w from ?_)
    have E := lp_for0 (fun (k : Int32 → St → Option (Int32 × St)) i (g : Nat → Int32) => k (nI i) (qI S (ad 5) g)) (fun _ _ => none) (fun k55 x53 S54 => if 900 ≤ x53 then ((fun S4 => lt (gR S4 (ad 1) 3) fun (a7 : Nat) => stI S4 a7 (nI c0) (vp_nar .boolean 1) fun (S9 : St) => jn (κ := Int32 → St → Option (Int32 × St)) (fun x10 S11 => cl (f_X12_areaOf S11 (ad 1) p) fun (v14 : Int32) => if x10 = v14 then (some (1, S11)) else (some (0, S11))) fun k12 => lp (κ := Int32 → Int32 → St → Option (Int32 × St)) (fun _ _ _ => none) (fun k18 x15 x16 S17 => if x16 = 0 then (k12 x15 S17) else (jn (κ := Int32 → Int32 → St → Option (Int32 × St)) (fun x20 x21 S22 => k18 x20 x21 S22) fun k23 => lp (κ := Int32 → Int32 → Int32 → St → Option (Int32 × St)) (fun _ _ _ _ => none) (fun k29 x25 x26 x27 S28 => if 900 ≤ x27 then (k23 x25 x26 S28) else (lt (gR S28 (ad 1) 3) fun (a31 : Nat) => ldI S28 a31 x27 fun (v33 : Int32) => jn (κ := Int32 → Int32 → St → Option (Int32 × St)) (fun x34 x35 S36 => k29 x34 x35 (x27 + 1) S36) fun k37 => if v33 = 0 then (lt (gR S28 (ad 1) 0) fun (a39 : Nat) => ldJ S28 a39 (250 + x27) fun (v41 : Int64) => if v41 = (Int32.toInt64 p) then (lt (x27 - x27 / 30 * 30) fun (v42 : Int32) => lt (x27 / 30) fun (v43 : Int32) => cl (f_X12_isReached S28 (ad 1) (v42 - 1) v43) fun (v44 : Int32) => jn (κ := Option (Int32 × St)) (lt (gR S28 (ad 1) 3) fun (a47 : Nat) => stI S28 a47 x27 (vp_nar .boolean 1) fun (S49 : St) => k37 (x25 + 1) 1 S49) fun k45 => if v44 = 0 then (cl (f_X12_isReached S28 (ad 1) (v42 + 1) v43) fun (v50 : Int32) => if v50 = 0 then (cl (f_X12_isReached S28 (ad 1) v42 (v43 - 1)) fun (v51 : Int32) => if v51 = 0 then (cl (f_X12_isReached S28 (ad 1) v42 (v43 + 1)) fun (v52 : Int32) => if v52 = 0 then (k37 x25 x26 S28) else (k45)) else (k45)) else (k45)) else (k45)) else (k37 x25 x26 S28)) else (k37 x25 x26 S28))) FU x15 0 0 S17)) FU 1 1 S9) S54) else (lt (gR S54 (ad 1) 3) fun (a57 : Nat) => stI S54 a57 x53 (vp_nar .boolean 0) fun (S59 : St) => k55 (x53 + 1) S59)) 900 (by decide) (fun i g => udt g i 0) (fun g => (fun S4 => lt (gR S4 (ad 1) 3) fun (a7 : Nat) => stI S4 a7 (nI c0) (vp_nar .boolean 1) fun (S9 : St) => jn (κ := Int32 → St → Option (Int32 × St)) (fun x10 S11 => cl (f_X12_areaOf S11 (ad 1) p) fun (v14 : Int32) => if x10 = v14 then (some (1, S11)) else (some (0, S11))) fun k12 => lp (κ := Int32 → Int32 → St → Option (Int32 × St)) (fun _ _ _ => none) (fun k18 x15 x16 S17 => if x16 = 0 then (k12 x15 S17) else (jn (κ := Int32 → Int32 → St → Option (Int32 × St)) (fun x20 x21 S22 => k18 x20 x21 S22) fun k23 => lp (κ := Int32 → Int32 → Int32 → St → Option (Int32 × St)) (fun _ _ _ _ => none) (fun k29 x25 x26 x27 S28 => if 900 ≤ x27 then (k23 x25 x26 S28) else (lt (gR S28 (ad 1) 3) fun (a31 : Nat) => ldI S28 a31 x27 fun (v33 : Int32) => jn (κ := Int32 → Int32 → St → Option (Int32 × St)) (fun x34 x35 S36 => k29 x34 x35 (x27 + 1) S36) fun k37 => if v33 = 0 then (lt (gR S28 (ad 1) 0) fun (a39 : Nat) => ldJ S28 a39 (250 + x27) fun (v41 : Int64) => if v41 = (Int32.toInt64 p) then (lt (x27 - x27 / 30 * 30) fun (v42 : Int32) => lt (x27 / 30) fun (v43 : Int32) => cl (f_X12_isReached S28 (ad 1) (v42 - 1) v43) fun (v44 : Int32) => jn (κ := Option (Int32 × St)) (lt (gR S28 (ad 1) 3) fun (a47 : Nat) => stI S28 a47 x27 (vp_nar .boolean 1) fun (S49 : St) => k37 (x25 + 1) 1 S49) fun k45 => if v44 = 0 then (cl (f_X12_isReached S28 (ad 1) (v42 + 1) v43) fun (v50 : Int32) => if v50 = 0 then (cl (f_X12_isReached S28 (ad 1) v42 (v43 - 1)) fun (v51 : Int32) => if v51 = 0 then (cl (f_X12_isReached S28 (ad 1) v42 (v43 + 1)) fun (v52 : Int32) => if v52 = 0 then (k37 x25 x26 S28) else (k45)) else (k45)) else (k45)) else (k45)) else (k37 x25 x26 S28)) else (k37 x25 x26 S28))) FU x15 0 0 S17)) FU 1 1 S9) (qI S (ad 5) g)) (fun _ _ => True) (gI S (ad 5)) trivial (by
      intro k i s hi _
      show (if 900 ≤ nI i then _ else _) = _
      rw [if_neg (ge900 hi), lt_n, R3, stI_at (by rw [N5]; exact hi) (by rw [N5]; decide), uI_qI, nI_1]
      rfl) (fun _ _ _ _ => trivial) (by
      intro k s _
      show (if 900 ≤ nI 900 then _ else _) = _
      rw [if_pos le900])
    rw [qI_self] at E
    rw [show (0 : Int32) = nI 0 from rfl]
    refine (show ∀ Z, _ = Z → (∃ w R, Z = some (bI w, qI S (ad 5) R) ∧ CW (fun c => v (250 + c) = p.toInt64) w) → _ from fun Z e ⟨w, R, h1, h2⟩ => ⟨w, R, e.trans h1, h2⟩) _ E ?_
    rw [clr 900]
    generalize hG0 : (fun i => if i < 900 then (0 : Int32) else gI S (ad 5) i) = G0
    have g0 : ∀ c, c < 900 → G0 c = 0 := fun c hc => by rw [← hG0]; exact if_pos hc
    show ∃ w R, (lt (gR (qI S (ad 5) G0) (ad 1) 3) _) = some (bI w, qI S (ad 5) R) ∧ CW (fun c => v (250 + c) = p.toInt64) w
    rw [lt_n, R3, stI_at (by rw [N5]; exact hc0) (by rw [N5]; decide), uI_qI, show vp_nar .boolean 1 = 1 from rfl, jn_n]
    have only : ∀ c, c < 900 → nzR (udt G0 c0 1) c → c = c0 := fun c hc hn => by
      refine Classical.byContradiction fun hne => hn ?_
      rw [udt_n hne]; exact g0 c hc
    have cn1 : cnt (udt G0 c0 1) = 1 := by rw [cnt_up hc0 (g0 c0 hc0), cnt_0 g0]
    refine lp_wh (fun (k : Int32 → Int32 → St → Option (Int32 × St)) (s : Bool × (Nat → Int32)) => k (nI (cnt s.2)) (bI s.1) (qI S (ad 5) s.2)) _ _ (fun s => if s.1 then 901 - cnt s.2 else 0) (fun s => nzR s.2 c0 ∧ Mns (fun c => v (250 + c) = p.toInt64) c0 (nzR s.2) ∧ (s.1 = false → Cls (fun c => v (250 + c) = p.toInt64) c0 (nzR s.2))) (fun o => ∃ w R, o = some (bI w, qI S (ad 5) R) ∧ CW (fun c => v (250 + c) = p.toInt64) w) ?_ 902 FU (true, udt G0 c0 1) ?_ (by decide) ?_ |> fun z => by
      have := z
      simp only [cn1] at this
      exact this
    · rintro k ⟨more, R⟩ ⟨j1, j2, j3⟩ ih
      cases more
      · show ∃ w R', (if bI false = 0 then _ else _) = some (bI w, qI S (ad 5) R') ∧ _
        rw [if_pos (by decide)]
        have m1 := Mv_qI h (ad 5) R
        refine ⟨decide (cnt R = arN v p), R, ?_, Or.inr ⟨c0, R, hc0, hO, hfst, j3 rfl, j2, by rw [arN, scl]⟩⟩
        show (cl (f_X12_areaOf (qI S (ad 5) R) (ad 1) p) _) = _
        have hle := cnt_le R
        have hle2 := arN_le (v := v) p
        rw [M_areaOf m1, cl_n, mArea_N]
        by_cases e : cnt R = arN v p
        · rw [if_pos (by rw [e]), decide_eq_true e]; rfl
        · rw [if_neg (show ¬ nI (cnt R) = nI (arN v p) by rw [nI_eq (by omega) (by omega)]; exact e), decide_eq_false e]; rfl
      · show ∃ w R', (if bI true = 0 then _ else _) = some (bI w, qI S (ad 5) R') ∧ _
        rw [if_neg (by decide), jn_n]
        refine lp_ex (fun (k : Int32 → Int32 → Int32 → St → Option (Int32 × St)) i (s : Bool × (Nat → Int32)) => k (nI (cnt s.2)) (bI s.1) (nI i) (qI S (ad 5) s.2)) _ _ 900 (JP (fun c => v (250 + c) = p.toInt64) c0 R) (fun o => ∃ w R, o = some (bI w, qI S (ad 5) R) ∧ CW (fun c => v (250 + c) = p.toInt64) w) ?_ ?_ 900 FU 0 (false, R) rfl ⟨j1, j2, fun _ => ⟨rfl, fun c hc => absurd hc (by omega)⟩, fun e => by cases e⟩ (by decide)
        · rintro k' i ⟨mr, Q⟩ hi hJ
          have mQ := Mv_qI h (ad 5) Q
          by_cases q0 : Q i = 0
          · by_cases q1 : v (250 + i) = p.toInt64
            · cases q2 : rb4 Q i
              · refine ⟨(mr, Q), JP_skip hJ (Or.inr (Or.inr q2)), ?_⟩
                show (if 900 ≤ nI i then _ else _) = _
                rw [if_neg (ge900 hi), lt_n, R3, ldI_at (by rw [N5]; exact hi) (by rw [N5]; decide), gI_qI, if_pos rfl, jn_n, if_pos q0, lt_n, R0, ldSe mQ (ad250 i) (by omega), if_pos q1, lt_n, rm30 (by omega), lt_n, dv30 (by omega), M_isR h, cl_n]
                simp only [rb4, Bool.or_eq_false_iff] at q2
                obtain ⟨z1, z2, z3, z4⟩ := q2
                rw [z1, jn_n, if_pos (by decide), M_isR h, cl_n, z2, if_pos (by decide), M_isR h, cl_n, z3, if_pos (by decide), M_isR h, cl_n, z4, if_pos (by decide), nI_1]
              · refine ⟨(true, udt Q i 1), JP_step hi hJ q1 q0 q2, ?_⟩
                show (if 900 ≤ nI i then _ else _) = _
                rw [if_neg (ge900 hi), lt_n, R3, ldI_at (by rw [N5]; exact hi) (by rw [N5]; decide), gI_qI, if_pos rfl, jn_n, if_pos q0, lt_n, R0, ldSe mQ (ad250 i) (by omega), if_pos q1, lt_n, rm30 (by omega), lt_n, dv30 (by omega), M_isR h, cl_n, jn_n]
                have hit : (lt (ad 5) fun (a47 : Nat) => stI (qI S (ad 5) Q) a47 (nI i) 1 fun (S49 : St) => (fun x34 x35 S36 => k' x34 x35 (nI i + 1) S36) (nI (cnt Q) + 1) 1 S49) = k' (nI (cnt (udt Q i 1))) (bI true) (nI (i + 1)) (qI S (ad 5) (udt Q i 1)) := by
                  rw [lt_n, stI_at (by rw [N5]; exact hi) (by rw [N5]; decide), uI_qI, cnt_up hi q0, nI_1, nI_1]
                  rfl
                rw [M_isR h, cl_n, M_isR h, cl_n, M_isR h, cl_n]
                simp only [rb4, Bool.or_eq_true] at q2
                by_cases z1 : rbR Q (nI (i % 30) - 1) (nI (i / 30)) = true
                · rw [z1, if_neg (by decide)]; exact hit
                · rw [Bool.not_eq_true] at z1
                  rw [z1, if_pos (by decide)]
                  by_cases z2 : rbR Q (nI (i % 30) + 1) (nI (i / 30)) = true
                  · rw [z2, if_neg (by decide)]; exact hit
                  · rw [Bool.not_eq_true] at z2
                    rw [z2, if_pos (by decide)]
                    by_cases z3 : rbR Q (nI (i % 30)) (nI (i / 30) - 1) = true
                    · rw [z3, if_neg (by decide)]; exact hit
                    · rw [Bool.not_eq_true] at z3
                      rw [z3, if_pos (by decide)]
                      have z4 : rbR Q (nI (i % 30)) (nI (i / 30) + 1) = true := by
                        rw [z1, z2, z3] at q2
                        simpa using q2
                      rw [z4, if_neg (by decide)]; exact hit
            · refine ⟨(mr, Q), JP_skip hJ (Or.inr (Or.inl q1)), ?_⟩
              show (if 900 ≤ nI i then _ else _) = _
              rw [if_neg (ge900 hi), lt_n, R3, ldI_at (by rw [N5]; exact hi) (by rw [N5]; decide), gI_qI, if_pos rfl, jn_n, if_pos q0, lt_n, R0, ldSe mQ (ad250 i) (by omega), if_neg q1, nI_1]
          · refine ⟨(mr, Q), JP_skip hJ (Or.inl q0), ?_⟩
            show (if 900 ≤ nI i then _ else _) = _
            rw [if_neg (ge900 hi), lt_n, R3, ldI_at (by rw [N5]; exact hi) (by rw [N5]; decide), gI_qI, if_pos rfl, jn_n, if_neg q0, nI_1]
        · rintro k' ⟨mr, Q⟩ hJ
          show ∃ w R', (if 900 ≤ nI 900 then _ else _) = some (bI w, qI S (ad 5) R') ∧ _
          rw [if_pos le900]
          have hle := cnt_le Q
          have hle2 := cnt_le R
          refine ih (mr, Q) ⟨hJ.1, hJ.2.1, fun e => ?_⟩ ?_
          · have e : mr = false := e
            subst e
            have e2 : Q = R := (hJ.2.2.1 rfl).1
            subst e2
            exact JP_end hJ
          · show (if mr then 901 - cnt Q else 0) < (if true then 901 - cnt R else 0)
            cases mr
            · simp; omega
            · have : cnt R < cnt Q := hJ.2.2.2 rfl
              simp; omega
    · show (if true then 901 - cnt (udt G0 c0 1) else 0) < 902
      simp; omega
    · refine ⟨?_, fun U hU c hc hn => ?_, fun e => by cases e⟩
      · show udt G0 c0 1 c0 ≠ 0
        rw [udt_e]; decide
      · rw [only c hc hn]; exact hU.1
  unfold f_X12_connected
  rw [jn_n]
  refine lp_ex2 (fun (k : Int32 → Option (Int32 × St)) i (_ : Unit) => k (nI i)) _ _ 900 (fun i _ => ∀ c, c < i → ¬ v (250 + c) = p.toInt64) (fun o => ∃ w R, o = some (bI w, qI S (ad 5) R) ∧ CW (fun c => v (250 + c) = p.toInt64) w) ?_ ?_ 900 FU 0 () rfl (fun c hc => absurd hc (by omega)) (by decide)
  · intro k i _ hi hJ
    by_cases hO : v (250 + i) = p.toInt64
    · left
      show ∃ w R', (if 900 ≤ nI i then _ else _) = some (bI w, qI S (ad 5) R') ∧ _
      rw [if_neg (ge900 hi), lt_n, r_1_0 t, ldSe h (ad250 i) (by omega), if_pos hO]
      exact fin i hi hO hJ
    · right
      refine ⟨(), fun c hc => ?_, ?_⟩
      · by_cases hci : c = i
        · subst hci; exact hO
        · exact hJ c (by omega)
      · show (if 900 ≤ nI i then _ else _) = _
        rw [if_neg (ge900 hi), lt_n, r_1_0 t, ldSe h (ad250 i) (by omega), if_neg hO, nI_1]
  · intro k _ hJ
    refine ⟨false, gI S (ad 5), ?_, Or.inl ⟨hJ, rfl⟩⟩
    show (if 900 ≤ nI 900 then _ else _) = _
    rw [if_pos le900]
    show (if nI 900 = 900 then _ else _) = _
    rw [if_pos (by decide), qI_self]; rfl
