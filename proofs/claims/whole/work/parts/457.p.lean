/-! the pure part: the ledger's search -/
variable {S S0 S1 S2 S' S'' S3 X : St} {ad : Nat → Nat} {b d j k : Nat} {v v0 v' v1 v2 u w : Nat → Int64} {np nf no mo no' mo' x y : Nat}
section
variable {a0 a1 a2 a3 c0 : Nat} {s s' s'' : QS} {O : Nat → Prop}
def JQ (O : Nat → Prop) (c0 : Nat) (s : QS) : Prop := s.2.2 = cnt s.1 ∧ (∀ i, i < s.2.2 → ∃ c, c < 900 ∧ s.2.1 i = nI c ∧ nzR s.1 c) ∧ (∀ c, c < 900 → nzR s.1 c → ∃ i, i < s.2.2 ∧ s.2.1 i = nI c) ∧ Mns O c0 (nzR s.1) ∧ nzR s.1 c0
def LQ (s s' : QS) : Prop := (∀ c, nzR s.1 c → nzR s'.1 c) ∧ (∀ i, i < s.2.2 → s'.2.1 i = s.2.1 i) ∧ s.2.2 ≤ s'.2.2
theorem LQ.rf : LQ s s := ⟨fun _ h => h, fun _ _ => rfl, Nat.le_refl _⟩
theorem LQ.tr (h : LQ s s') (h2 : LQ s' s'') : LQ s s'' := ⟨fun c e => h2.1 c (h.1 c e), fun i hi => (h2.2.1 i (Nat.lt_of_lt_of_le hi h.2.2)).trans (h.2.1 i hi), Nat.le_trans h.2.2 h2.2.2⟩
theorem JQ.le (h : JQ O c0 s) : s.2.2 ≤ 900 := by rw [h.1]; exact cnt_le _
theorem JQ.lt (h : JQ O c0 s) : ∀ c, c < 900 → s.1 c = 0 → s.2.2 < 900 := fun c hc e => by rw [h.1]; exact cnt_lt hc e
theorem rcO_J [DecidablePred O] (h : JQ O c0 s) {c : Nat} (hc : c < 900) (hz : nzR s.1 c) {o : Option Nat} (ho : ∀ e, o = some e → e < 900 ∧ adj c e) : JQ O c0 (rcO O s o) ∧ LQ s (rcO O s o) ∧ ∀ e, o = some e → O e → nzR (rcO O s o).1 e := by
  cases o with
  | none => exact ⟨h, LQ.rf, fun e he => by cases he⟩
  | some e =>
    obtain ⟨he, ha⟩ := ho e rfl
    show JQ O c0 (rch O s e) ∧ LQ s (rch O s e) ∧ ∀ e', some e = some e' → O e' → nzR (rch O s e).1 e'
    unfold rch
    by_cases hq : O e ∧ s.1 e = 0
    · rw [if_pos hq]
      obtain ⟨j1, j2, j3, j4, j5⟩ := h
      have up : ∀ c, nzR s.1 c → nzR (udt s.1 e 1) c := fun c hc => by
        unfold nzR at *
        by_cases hce : c = e
        · subst hce; rw [udt_e]; decide
        · rw [udt_n hce]; exact hc
      have eN : nzR (udt s.1 e 1) e := by unfold nzR; rw [udt_e]; decide
      refine ⟨⟨?_, fun i hi => ?_, fun c hc hn => ?_, fun U hU c hc hn => ?_, up _ j5⟩, ⟨up, fun i hi => udt_n (by omega), Nat.le_succ _⟩, fun e' h1 _ => by cases h1; exact eN⟩
      · show s.2.2 + 1 = cnt (udt s.1 e 1)
        rw [cnt_up he hq.2, j1]
      · show ∃ c, c < 900 ∧ udt s.2.1 s.2.2 (nI e) i = nI c ∧ nzR (udt s.1 e 1) c
        have hi : i < s.2.2 + 1 := hi
        by_cases hin : i = s.2.2
        · subst hin; exact ⟨e, he, udt_e _ _ _, eN⟩
        · obtain ⟨c, g1, g2, g3⟩ := j2 i (by omega)
          exact ⟨c, g1, (udt_n hin).trans g2, up c g3⟩
      · show ∃ i, i < s.2.2 + 1 ∧ udt s.2.1 s.2.2 (nI e) i = nI c
        by_cases hce : c = e
        · subst hce; exact ⟨s.2.2, by omega, udt_e _ _ _⟩
        · have hn : nzR s.1 c := by unfold nzR at *; rw [show (udt s.1 e 1, udt s.2.1 s.2.2 (nI e), s.2.2 + 1).1 c = udt s.1 e 1 c from rfl, udt_n hce] at hn; exact hn
          obtain ⟨i, g1, g2⟩ := j3 c hc hn
          exact ⟨i, by omega, (udt_n (by omega)).trans g2⟩
      · by_cases hce : c = e
        · subst hce
          exact hU.2 _ c (by assumption) he (j4 U hU _ (by assumption) hz) ha hq.1
        · have hn : nzR s.1 c := by unfold nzR at *; rw [show (udt s.1 e 1, udt s.2.1 s.2.2 (nI e), s.2.2 + 1).1 c = udt s.1 e 1 c from rfl, udt_n hce] at hn; exact hn
          exact j4 U hU c hc hn
    · rw [if_neg hq]
      refine ⟨h, LQ.rf, fun e' h1 h2 => ?_⟩
      cases h1
      exact fun e0 => hq ⟨h2, e0⟩
/-- one cell of the queue -/
def st4 (O : Nat → Prop) [DecidablePred O] (s : QS) (c : Nat) : QS := rcO O (rcO O (rcO O (rcO O s (dL c)) (dR c)) (dU c)) (dD c)
theorem st4_J [DecidablePred O] (h : JQ O c0 s) {c : Nat} (hc : c < 900) (hz : nzR s.1 c) : JQ O c0 (st4 O s c) ∧ LQ s (st4 O s c) ∧ ∀ e, e < 900 → adj c e → O e → nzR (st4 O s c).1 e := by
  obtain ⟨a1, a2, a3⟩ := rcO_J h hc hz (o := dL c) (fun e he => (adj_iff hc).mpr (Or.inl he))
  obtain ⟨b1, b2, b3⟩ := rcO_J a1 hc (a2.1 c hz) (o := dR c) (fun e he => (adj_iff hc).mpr (Or.inr (Or.inl he)))
  obtain ⟨c1, c2, c3⟩ := rcO_J b1 hc (b2.1 c (a2.1 c hz)) (o := dU c) (fun e he => (adj_iff hc).mpr (Or.inr (Or.inr (Or.inl he))))
  obtain ⟨d1, d2, d3⟩ := rcO_J c1 hc (c2.1 c (b2.1 c (a2.1 c hz))) (o := dD c) (fun e he => (adj_iff hc).mpr (Or.inr (Or.inr (Or.inr he))))
  refine ⟨d1, ((a2.tr b2).tr c2).tr d2, fun e he ha hO => ?_⟩
  rcases (adj_iff hc).mp ⟨he, ha⟩ with h1 | h1 | h1 | h1
  · exact d2.1 _ (c2.1 _ (b2.1 _ (a3 e h1 hO)))
  · exact d2.1 _ (c2.1 _ (b3 e h1 hO))
  · exact d2.1 _ (c3 e h1 hO)
  · exact d3 e h1 hO
/-- the queue's cells before the place m have been done -/
def DN (O : Nat → Prop) (m : Nat) (s : QS) : Prop := ∀ i, i < m → ∀ c, c < 900 → s.2.1 i = nI c → ∀ e, e < 900 → adj c e → O e → nzR s.1 e
theorem DN_end {m : Nat} (h : JQ O c0 s) (hm : s.2.2 ≤ m) (hd : DN O m s) : Cls O c0 (nzR s.1) := by
  refine ⟨h.2.2.2.2, fun c e hc he hz ha hO => ?_⟩
  obtain ⟨i, h1, h2⟩ := h.2.2.1 c hc hz
  exact hd i (by omega) c hc h2 e he ha hO
end
section
variable {a0 a1 a2 a3 c0 : Nat} {s s' s'' : QS}
theorem G_size (h : GA S a0 a1 a2 a3) (p : Int32) : f_X3_sizeOf S a0 p = some (nI (sm (fun c => if gI S a1 c = p then 1 else 0) 900)) := by
  unfold f_X3_sizeOf
  refine (jn_n _ _).trans ?_
  refine (lp_for0 (fun (k : Int32 → Int32 → Option Int32) i s => k s (nI i)) _ _ 900 (by decide) (fun c s => s + nI (if gI S a1 c = p then 1 else 0)) some (fun _ _ => True) 0 trivial ?_ (fun _ _ _ _ => trivial) ?_).trans ?_
  · intro k i s hi _
    rw [if_neg (ge900 hi), lt_n, h.1, ldI_at (by rw [h.2.2.2.1]; exact hi) (by rw [h.2.2.2.1]; decide), jn_n, nI_1]
    by_cases hc : gI S a1 i = p
    · rw [if_pos hc, if_pos hc]; rfl
    · rw [if_neg hc, if_neg hc]
      show k s _ = k (s + 0) _
      rw [Int32.add_zero]
  · intro k s _
    rw [if_pos le900]
  · have := itr_sm (fun c => if gI S a1 c = p then 1 else 0) 900 0
    rw [Nat.zero_add] at this
    exact congrArg some this
theorem G_fill (h : gN S a3 = 900) : f_J7_fill_53178 S a3 0 = some (qI S a3 (fun i => if i < 900 then 0 else gI S a3 i)) := by
  unfold f_J7_fill_53178
  rw [lt_n, h]
  have e : ∀ n, itr (fun i (g : Nat → Int32) => udt g i 0) 0 n (gI S a3) = fun i => if i < n then 0 else gI S a3 i := by
    intro n
    induction n with
    | zero => rfl
    | succ n ih =>
      rw [itr_succ, ih, Nat.zero_add]
      funext i
      by_cases hi : i = n
      · subst hi; rw [udt_e, if_pos (by omega)]
      · rw [udt_n hi]
        by_cases h2 : i < n
        · rw [if_pos h2, if_pos (by omega)]
        · rw [if_neg h2, if_neg (by omega)]
  conv => lhs; rw [← qI_self S a3]
  refine (lp_for0 (fun (k : Int32 → St → Option St) i (g : Nat → Int32) => k (nI i) (qI S a3 g)) _ _ 900 (by decide) (fun i g => udt g i 0) (fun g => some (qI S a3 g)) (fun _ _ => True) (gI S a3) trivial ?_ (fun _ _ _ _ => trivial) ?_).trans ?_
  · intro k i s hi _
    have h1 : ¬ nI 900 ≤ nI i := by rw [nI_leI (by omega) (by omega)]; omega
    rw [if_neg h1, stI_at (by rw [gN_qI, h]; exact hi) (by rw [gN_qI, h]; decide), uI_qI, nI_1]
  · intro k s _
    rw [if_pos (by rw [nI_leI (by omega) (by omega)]; omega)]
  · rw [e 900]
theorem gst_start (h : GA S a0 a1 a2 a3) : uI (qI S a3 (fun i => if i < 900 then 0 else gI S a3 i)) a0 3 0 = gst S a0 a2 a3 (fun i => if i < 900 then 0 else gI S a3 i, gI S a2, 0) := by
  unfold gst
  show _ = uI (qI (qI S a2 (gI S a2)) a3 _) a0 3 (nI 0)
  rw [qI_self]; rfl
/-- the class's search answers -/
theorem G_whole (h : GA S a0 a1 a2 a3) (p : Int32) : ∃ w S', f_X3_isWhole S a0 p = some (bI w, S') ∧ CW (fun c => gI S a1 c = p) w ∧ (S' = S ∨ ∃ s, S' = gst S a0 a2 a3 s) := by
  unfold f_X3_isWhole
  rw [G_size h, cl_n]
  have szle : sm (fun c => if gI S a1 c = p then 1 else 0) 900 ≤ 900 := sm_bd 900 (fun i _ => by show (if gI S a1 i = p then 1 else 0) ≤ 1; by_cases h : gI S a1 i = p <;> simp [h])
  have scl : sm (fun c => if gI S a1 c = p then 1 else 0) 900 = sm (fun c => @ite Nat (gI S a1 c = p) (Classical.propDecidable _) 1 0) 900 := sm_congr 900 fun c _ => by
    by_cases hc : gI S a1 c = p <;> simp [hc]
  generalize hz : sm (fun c => if gI S a1 c = p then 1 else 0) 900 = sz at szle scl
  by_cases h0 : sz = 0
  · rw [if_pos (by rw [h0]; rfl)]
    refine ⟨false, S, rfl, Or.inl ⟨fun c hc e => ?_, rfl⟩, Or.inl rfl⟩
    have := sm_upd (g := fun i => if gI S a1 i = p then 1 else 0) (h := fun i => if i = c then 0 else if gI S a1 i = p then 1 else 0) 900 hc (fun i _ hi => by show _ = (if i = c then 0 else _); rw [if_neg hi])
    simp only [if_true, e] at this
    omega
  · rw [if_neg (fun e => h0 (by have := congrArg Int32.toInt e; rw [nI_toInt (by omega)] at this; simpa using this)), lt_n, h.2.2.1, G_fill h.2.2.2.2.2.1, cl_n, lt_n, gst_start h]
    have fin : ∀ c0 s, c0 < 900 → gI S a1 c0 = p → (∀ c, c < c0 → ¬ gI S a1 c = p) → JQ (fun c => gI S a1 c = p) c0 s → ∃ w S', (fun S6 => jn (κ := St → Option (Int32 × St)) (fun S9 => lt (gI S9 a0 3) fun (v12 : Int32) => if v12 = (nI sz) then (some (1, S9)) else (some (0, S9))) fun k10 => lp (κ := Int32 → St → Option (Int32 × St)) (fun _ _ => none) (fun k15 x13 S14 => lt (gI S14 a0 3) fun (v17 : Int32) => if v17 ≤ x13 then (k10 S14) else (lt (gR S14 a0 1) fun (a18 : Nat) => ldI S14 a18 x13 fun (v20 : Int32) => lt (v20 - v20 / 30 * 30) fun (v21 : Int32) => lt (gR S14 a0 1) fun (a22 : Nat) => ldI S14 a22 x13 fun (v24 : Int32) => lt (v24 / 30) fun (v25 : Int32) => cl (f_X3_reach S14 a0 p (v21 - 1) v25) fun (S26 : St) => cl (f_X3_reach S26 a0 p (v21 + 1) v25) fun (S27 : St) => cl (f_X3_reach S27 a0 p v21 (v25 - 1)) fun (S28 : St) => cl (f_X3_reach S28 a0 p v21 (v25 + 1)) fun (S29 : St) => k15 (x13 + 1) S29)) FU 0 S6) (gst S a0 a2 a3 s) = some (bI w, S') ∧ CW (fun c => gI S a1 c = p) w ∧ (S' = S ∨ ∃ s, S' = gst S a0 a2 a3 s) := by
      intro c0 s hc0 hO hfst hJ
      refine (show ∃ w S', (jn (κ := St → Option (Int32 × St)) _ _) = some (bI w, S') ∧ CW (fun c => gI S a1 c = p) w ∧ (S' = S ∨ ∃ s, S' = gst S a0 a2 a3 s) from ?_)
      rw [jn_n]
      have exi : ∀ s, JQ (fun c => gI S a1 c = p) c0 s → Cls (fun c => gI S a1 c = p) c0 (nzR s.1) → ∃ w S', (lt (gI (gst S a0 a2 a3 s) a0 3) fun (v12 : Int32) => if v12 = nI sz then (some ((1 : Int32), gst S a0 a2 a3 s)) else (some (0, gst S a0 a2 a3 s))) = some (bI w, S') ∧ CW (fun c => gI S a1 c = p) w ∧ (S' = S ∨ ∃ s, S' = gst S a0 a2 a3 s) := by
        intro s hJ hC
        refine ⟨decide (cnt s.1 = sz), gst S a0 a2 a3 s, ?_, Or.inr ⟨c0, s.1, hc0, hO, hfst, hC, hJ.2.2.2.1, ?_⟩, Or.inr ⟨s, rfl⟩⟩
        · rw [lt_n, gst_0, hJ.1]
          have hle := cnt_le s.1
          by_cases e : cnt s.1 = sz
          · rw [if_pos (by rw [e]), decide_eq_true e]; rfl
          · rw [if_neg (by rw [nI_eq (by omega) (by omega)]; exact e), decide_eq_false e]; rfl
        · rw [scl]
      refine lp_ex2 (fun (k : Int32 → St → Option (Int32 × St)) i (s : QS) => k (nI i) (gst S a0 a2 a3 s)) _ _ 900 (fun i s => JQ (fun c => gI S a1 c = p) c0 s ∧ i ≤ s.2.2 ∧ DN (fun c => gI S a1 c = p) i s) (fun o => ∃ w S', o = some (bI w, S') ∧ CW (fun c => gI S a1 c = p) w ∧ (S' = S ∨ ∃ s, S' = gst S a0 a2 a3 s)) ?_ ?_ 900 FU 0 s rfl ⟨hJ, Nat.zero_le _, fun i hi => absurd hi (by omega)⟩ (by decide)
      · intro k i s hi ⟨hJ, hle, hD⟩
        have h9 := hJ.le
        by_cases hn : s.2.2 ≤ i
        · left
          show ∃ w S', (lt (gI (gst S a0 a2 a3 s) a0 3) _) = some (bI w, S') ∧ _
          rw [lt_n, gst_0, if_pos (by rw [nI_leI (by omega) (by omega)]; omega)]
          exact exi s hJ (DN_end hJ hn hD)
        · right
          obtain ⟨c, hc, e1, hz1⟩ := hJ.2.1 i (by omega)
          obtain ⟨q1, q2, q3⟩ := st4_J hJ hc hz1
          refine ⟨st4 (fun c => gI S a1 c = p) s c, ⟨q1, by have := q2.2.2; omega, fun i' hi' c' hc' e' e he ha hO' => ?_⟩, ?_⟩
          · by_cases hii : i' = i
            · subst hii
              rw [q2.2.1 i' (by omega), e1] at e'
              have : c = c' := by have := congrArg Int32.toInt e'; rw [nI_toInt (by omega), nI_toInt (by omega)] at this; omega
              subst this
              exact q3 e he ha hO'
            · rw [q2.2.1 i' (by omega)] at e'
              exact q2.1 _ (hD i' (by omega) c' hc' e' e he ha hO')
          · show (lt (gI (gst S a0 a2 a3 s) a0 3) _) = _
            have r1 := rcO_J hJ hc hz1 (o := dL c) (fun e he => (adj_iff hc).mpr (Or.inl he))
            have r2 := rcO_J r1.1 hc (r1.2.1.1 c hz1) (o := dR c) (fun e he => (adj_iff hc).mpr (Or.inr (Or.inl he)))
            have r3 := rcO_J r2.1 hc (r2.2.1.1 c (r1.2.1.1 c hz1)) (o := dU c) (fun e he => (adj_iff hc).mpr (Or.inr (Or.inr (Or.inl he))))
            rw [lt_n, gst_0, if_neg (by rw [nI_leI (by omega) (by omega)]; omega), lt_n, gst_R, h.2.1, ldI_at (by rw [gst_N, h.2.2.2.2.1]; exact hi) (by rw [gst_N, h.2.2.2.2.1]; decide), gst_2 h, e1, lt_n, rm30 (by omega), lt_n, ldI_at (by rw [gst_N, h.2.2.2.2.1]; exact hi) (by rw [gst_N, h.2.2.2.2.1]; decide), gst_2 h, e1, lt_n, dv30 (by omega)]
            rw [G_reachO h p (Dir_L hc) hJ.lt hJ.le, cl_n, G_reachO h p (Dir_R hc) r1.1.lt r1.1.le, cl_n, G_reachO h p (Dir_U hc) r2.1.lt r2.1.le, cl_n, G_reachO h p (Dir_D hc) r3.1.lt r3.1.le, cl_n, nI_1]
            rfl
      · intro k s ⟨hJ, hle, hD⟩
        have h9 := hJ.le
        show ∃ w S', (lt (gI (gst S a0 a2 a3 s) a0 3) _) = some (bI w, S') ∧ _
        rw [lt_n, gst_0, if_pos (by rw [nI_leI (by omega) (by omega)]; omega)]
        exact exi s hJ (DN_end hJ h9 hD)
    refine (show ∃ w S', _ = some (bI w, S') ∧ CW (fun c => gI S a1 c = p) w ∧ (S' = S ∨ ∃ s, S' = gst S a0 a2 a3 s) from ?_)
    rw [jn_n]
    have hex : ∃ c, c < 900 ∧ gI S a1 c = p := by
      refine Classical.byContradiction fun hne => h0 ?_
      rw [← hz]
      exact sm_zero 900 fun c hc => by
        show (if gI S a1 c = p then 1 else 0) = 0
        rw [if_neg (fun e => hne ⟨c, hc, e⟩)]
    refine lp_ex2 (fun (k : Int32 → St → Option (Int32 × St)) i (s : QS) => k (nI i) (gst S a0 a2 a3 s)) _ _ 900 (fun i s => (s = (fun i => if i < 900 then 0 else gI S a3 i, gI S a2, 0) ∧ ∀ c, c < i → ¬ gI S a1 c = p) ∨ ∃ c0, c0 < 900 ∧ gI S a1 c0 = p ∧ (∀ c, c < c0 → ¬ gI S a1 c = p) ∧ JQ (fun c => gI S a1 c = p) c0 s ∧ s.2.2 = 1) (fun o => ∃ w S', o = some (bI w, S') ∧ CW (fun c => gI S a1 c = p) w ∧ (S' = S ∨ ∃ s, S' = gst S a0 a2 a3 s)) ?_ ?_ 900 FU 0 _ rfl (Or.inl ⟨rfl, fun c hc => absurd hc (by omega)⟩) (by decide)
    · rintro k i s hi (⟨rfl, hno⟩ | ⟨c0, g1, g2, g3, g4, g5⟩)
      · right
        refine ⟨rch (fun c => gI S a1 c = p) (fun i => if i < 900 then 0 else gI S a3 i, gI S a2, 0) i, ?_, ?_⟩
        · by_cases hp : gI S a1 i = p
          · right
            have hz0 : (fun i => if i < 900 then (0 : Int32) else gI S a3 i) i = 0 := if_pos hi
            refine ⟨i, hi, hp, hno, ?_, ?_⟩
            · unfold rch
              rw [if_pos ⟨hp, hz0⟩]
              have only : ∀ c, c < 900 → nzR (udt (fun i => if i < 900 then (0 : Int32) else gI S a3 i) i 1) c → c = i := fun c hc hn => by
                refine Classical.byContradiction fun hne => hn ?_
                rw [udt_n hne]; exact if_pos hc
              refine ⟨?_, fun l hl => ⟨i, hi, ?_, ?_⟩, fun c hc hn => ⟨0, Nat.zero_lt_one, ?_⟩, fun U hU c hc hn => ?_, ?_⟩
              · show 0 + 1 = cnt (udt _ i 1)
                rw [cnt_up hi hz0, cnt_0 (fun c hc => if_pos hc)]
              · have hl : l < 0 + 1 := hl
                show udt (gI S a2) 0 (nI i) l = nI i
                rw [show l = 0 by omega, udt_e]
              · show udt _ i 1 i ≠ 0
                rw [udt_e]; decide
              · show udt (gI S a2) 0 (nI i) 0 = nI c
                rw [udt_e, only c hc hn]
              · rw [only c hc hn]; exact hU.1
              · show udt _ i 1 i ≠ 0
                rw [udt_e]; decide
            · unfold rch
              rw [if_pos ⟨hp, hz0⟩]
          · left
            refine ⟨?_, fun c hc => ?_⟩
            · unfold rch
              rw [if_neg (fun e => hp e.1)]
            · by_cases hci : c = i
              · subst hci; exact hp
              · exact hno c (by omega)
        · show (if 900 ≤ nI i then _ else _) = _
          rw [if_neg (ge900 hi), lt_n, gst_0]
          show (if (0 : Int32) = 0 then _ else _) = _
          rw [if_pos rfl, rm30 (by omega), dv30 (by omega), G_reach h p hi (fun _ _ => by show 0 < 900; decide) (by show 0 ≤ 900; decide), cl_n, nI_1]
      · left
        show ∃ w S', (if 900 ≤ nI i then _ else _) = some (bI w, S') ∧ _
        rw [if_neg (ge900 hi), lt_n, gst_0, g5, if_neg (show ¬ nI 1 = 0 by decide)]
        exact fin c0 s g1 g2 g3 g4
    · rintro k s (⟨rfl, hno⟩ | ⟨c0, g1, g2, g3, g4, g5⟩)
      · obtain ⟨c, hc, e⟩ := hex
        exact absurd e (hno c hc)
      · show ∃ w S', (if 900 ≤ nI 900 then _ else _) = some (bI w, S') ∧ _
        rw [if_pos le900]
        exact fin c0 s g1 g2 g3 g4
end
