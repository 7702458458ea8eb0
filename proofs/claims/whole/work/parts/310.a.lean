/-! the law's own rows: the script, calls of the helpers; Cn c is the law's context when c exceptions have been caught -/
def Fam (Cn : Nat → CT) (b Ls : Nat) (xs : Nat → Int32) : Prop :=
  ∃ (p : Program) (l : Launch) (e : Env) (R : Room) (s : State) (m : MethodId) (args : Array Value) (below : List Frame) (meth : Method) (c : Code) (A : Nat → Prop) (G : va_G) (cy : Nat → ClassId) (L : List Nat) (K : Nat → Nat) (ce sl : Nat), (∀ n, Cn n = (p, l, e, R, s, m, args, below, meth, c, A, G, cy, L, K, ce + n, sl + 6 * n)) ∧ (∀ n, n ≤ 512 → Cx (Cn n) code 8 RL 14 532) ∧ EX cy A s ∧ l.stackTraces = false ∧ va_X b Ls xs s s.heap ∧ b < s.heap.size ∧ ¬ A b ∧ ce + 512 ≤ R.cells ∧ sl + 6 * 512 ≤ R.slots
def sx {β : Type} (Ls : Nat) (xs : Nat → Int32) (i : Int32) (k : Int32 → Option β) : Option β := if i < 0 ∨ Ls ≤ i.toNatClampNeg then none else k (xs i.toNatClampNeg)
/-- no more than 512 exceptions are caught -/
def bud {β : Type} (n : Nat) (k : Option β) : Option β := if n ≤ 512 then k else none
theorem Fam.X {Cn : Nat → CT} {b Ls : Nat} {xs : Nat → Int32} (h : Fam Cn b Ls xs) {n : Nat} (hn : n ≤ 512) : Cx (Cn n) code 8 RL 14 532 := by
  obtain ⟨p, l, e, R, s, m, args, below, meth, c, A, G, cy, L, K, ce, sl, h1, h2, -⟩ := h
  exact h2 n hn
theorem Fam.E {Cn : Nat → CT} {b Ls : Nat} {xs : Nat → Int32} (h : Fam Cn b Ls xs) (n : Nat) : cE (Cn n) := by
  obtain ⟨p, l, e, R, s, m, args, below, meth, c, A, G, cy, L, K, ce, sl, h1, h2, h3, -⟩ := h
  rw [h1 n]
  exact h3
theorem Fam.T {Cn : Nat → CT} {b Ls : Nat} {xs : Nat → Int32} (h : Fam Cn b Ls xs) {n : Nat} (j : Nat) {a k : Nat} (t : tT (Cn n) a k) : tT (Cn j) a k := by
  obtain ⟨p, l, e, R, s, m, args, below, meth, c, A, G, cy, L, K, ce, sl, h1, -⟩ := h
  rw [h1 n] at t
  rw [h1 j]
  have t1 : a ∈ L := t.1
  have t2 : K a = k := t.2
  exact ⟨t1, t2⟩
section
variable {α : Type} {Cn : Nat → CT} {b Ls : Nat} {xs : Nat → Int32} {n : Nat} {Q : α → State → Prop} {S : St} {vs : List (Option Value)} {st : List Value} {pc : Nat}
theorem s_sld (h : Fam Cn b Ls xs) (d : decode code pc = .ok (.iaload, 1)) {i : Int32} {f : Int32 → Option α} (kk : ∀ v, Jd (Cn n) 8 Q S (pc + 1) vs (.int v :: st) (f v)) : Jd (Cn n) 8 Q S pc vs (.int i :: .ref b :: st) (sx Ls xs i f) := by
  obtain ⟨p, l, e, R, s, m, args, below, meth, c, A, G, cy, L, K, ce, sl, h1, h2, h3, h4, h5, h6, h7, -⟩ := h
  by_cases hn : n ≤ 512
  · have X := h2 n hn
    rw [h1 n] at X kk ⊢
    intro out hF hw H locs ls hP hD hS hl
    simp only [sx] at hF
    split at hF
    · cases hF
    · rename_i hin
      exact va_sld X.1 X.2.1 h5 h6 h7 hS hin d (kk _ out hF hw H locs ls hP hD hS hl)
  · rw [h1 n] at kk ⊢
    intro out hF hw H locs ls hP hD hS hl
    simp only [sx] at hF
    split at hF
    · cases hF
    · rename_i hin
      have X := h2 0 (Nat.zero_le _)
      rw [h1 0] at X
      exact va_sld X.1 X.2.1 h5 h6 h7 hS hin d (kk _ out hF hw H locs ls hP hD hS hl)
theorem s_slen (h : Fam Cn b Ls xs) (d : decode code pc = .ok (.arraylength, 1)) {f : Int32 → Option α} (kk : ∀ v, Jd (Cn n) 8 Q S (pc + 1) vs (.int v :: st) (f v)) : Jd (Cn n) 8 Q S pc vs (.ref b :: st) (lt (nI Ls) f) := by
  obtain ⟨p, l, e, R, s, m, args, below, meth, c, A, G, cy, L, K, ce, sl, h1, h2, h3, h4, h5, h6, h7, -⟩ := h
  have X := h2 0 (Nat.zero_le _)
  rw [h1 0] at X
  rw [h1 n] at kk ⊢
  intro out hF hw H locs ls hP hD hS hl
  exact va_slen X.1 X.2.1 h5 h6 h7 hS d (kk _ out hF hw H locs ls hP hD hS hl)
end
def MH (own : String) (idx : Nat) (y : MethodName) (cc : ByteArray) (nL : Nat) (hh : List (Nat × Nat × Nat × Nat)) (n : Nat) : Prop := Cond.methodLink own idx y ∈ TT ∧ Cond.static y ∈ TT ∧ Cond.initialized y.cls ∈ TT ∧ Cond.codeWith y cc nL (some .int) hh ∈ TT ∧ (y.cls ≠ "java/lang/invoke/MethodHandle" ∧ y.cls ≠ "java/lang/invoke/VarHandle" ∧ (parseMethodDescriptor y.desc).map (fun d => d.parameters.length) = some n)
section
variable {α : Type} {Cn : Nat → CT} {b Ls : Nat} {xs : Nat → Int32} {c0 : Nat} {Q : α → State → Prop} {S : St} {vs : List (Option Value)} {st0 : List Value} {pc idx : Nat} {y : MethodName} {cc' : ByteArray} {nL' fr' lo' n : Nat} {hh : List (Nat × Nat × Nat × Nat)} {F' : Option (Int32 × St × Nat)} {k : Int32 × St × Nat → Option α} {ta : List (Nat × Nat)}
theorem s_callH (h : Fam Cn b Ls xs) {As rest : List Value} (mv : MH RL idx y cc' nL' hh n) (ct : CtL y cc' nL' hh fr' lo' As ta S F') (hta : ∀ q ∈ ta, tT (Cn c0) q.1 q.2) (hn : As.length = n) (hst : st0 = As.reverse ++ rest) (hcat : (rest.map fun v => v.category).sum ≤ 8) (hfr : fr' + 1 ≤ 14) (hlo : 8 + (nL' + 11) + lo' ≤ 532) (d : decode code pc = .ok (.invokestatic idx, 3)) {st' : Int32 × St × Nat → List Value} (hs : ∀ o, (oH o).toList ++ rest = st' o) (kk : ∀ o, c0 + o.2.2 ≤ 512 → Jd (Cn (c0 + o.2.2)) 8 Q (sH o) (pc + 3) vs (st' o) (k o)) : Jd (Cn c0) 8 Q S pc vs st0 (cl F' (fun o => bud (c0 + o.2.2) (k o))) := by
  obtain ⟨p, l, e, R, s, m, args, below, meth, c, A, G, cy, L, K, ce, sl, h1, h2, h3, h4, h5, h6, h7, h8, h9⟩ := h
  cases F' with
  | none => rw [h1 c0]; intro out hF; cases hF
  | some o =>
    by_cases hb0 : c0 + o.2.2 ≤ 512
    · have X := h2 0 (Nat.zero_le _)
      have kk := kk o hb0
      rw [h1 0] at X
      rw [h1 c0] at hta ⊢
      rw [h1 (c0 + o.2.2)] at kk
      intro out hF hw H locs ls hP hD hS hl
      have hF : bud (c0 + o.2.2) (k o) = some out := hF
      rw [show bud (c0 + o.2.2) (k o) = k o from if_pos hb0] at hF
      obtain ⟨hx, hb, hml, hown, hts, hK, hA, hlk, hRf, hRl, hL, hce, hsl⟩ := id X
      obtain ⟨m1, m2, m4, m5, m6⟩ := mv
      have hM := ct l G cy L K H.size o h4 rfl hta
      have hA1 : ∀ q, va_A (plw cy L K S) H.size q → A q := by
        intro q hq
        rcases hq with hq | hq
        · exact hL q (pl_A hq)
        · exact hA q (Nat.le_trans hS.1 hq)
      have hrun := vx_runSW (p := p) (e := e) (R := R) (below := below) (meth := meth) (locs := locs) (cells := ce + c0) (slots := sl + 6 * c0) (g := F0 m pc ls st0) (As := As) (rest := rest) (bytes := cc') (maxL := nL') (ret := some .int) (Ts := TT) (own := RL) (n := n) (hh := hh) (mc := o.2.2) (ms := 6 * o.2.2) ⟨hx, hb, hml, hown, hts⟩ hM (vx_cwSW (ws' := TT) n hts (fun w hw => by
          have hw2 : w ∈ TT := by
            rcases List.mem_append.mp hw with q | q
            · simp only [List.mem_cons, List.not_mem_nil, or_false] at q
              rcases q with rfl | rfl | rfl
              · exact m1
              · exact m2
              · exact m4
            · exact (List.mem_cons.mp q).elim (fun e => e ▸ m5) id
          exact ⟨hw2, good_of_word (TT_good hw2)⟩) rfl rfl rfl m6 ⟨by rw [hRf]; exact hfr, by rw [hRl]; exact hlo⟩) ⟨KP_blind, fun U hU hW => ⟨rfl, by rw [hU], by rw [hU]; exact hP, va_K.moved hW.alike hK, hD.weaken (fun _ _ _ _ => trivial), hw, EX_call h3 hS hU hW hA1⟩⟩ rfl hn hl.1 hst (lv_room hcat) d ⟨by omega, by omega⟩
      intro T hT X9
      obtain ⟨v, st₀, t, T', L', h0, X', hL', e1, e2, ⟨⟨hv, hP1, hD1, hw1⟩, hz, hk⟩, st⟩ := hrun T hT X9
      cases hv
      rw [h0] at hz hk
      have hS1 : va_S A s.heap T'.heap (locs ++ L') := ⟨Nat.le_trans hS.1 (by rw [e1]; exact hz), fun q h1 h2 => by rw [e1, hk q (Nat.lt_of_lt_of_le h1 hS.1) (fun z => h2 (hA1 q z))]; exact hS.2.1 q h1 h2, fun q hq => by
        rcases List.mem_append.mp hq with h | h
        · exact hS.2.2 q h
        · exact hA1 _ (hL' q h)⟩
      rw [← hs o, show ce + (c0 + o.2.2) = ce + c0 + o.2.2 by omega, show sl + 6 * (c0 + o.2.2) = sl + 6 * c0 + 6 * o.2.2 by omega] at kk
      obtain ⟨t2, a2, b2⟩ := kk out hF hw1 T'.heap (locs ++ L') ls (by rw [e1]; exact hP1) (hD1.weaken (fun k q _ h => hA1 q.1 h)) hS1 hl T' rfl X'
      exact ⟨t2, st t2 a2, b2⟩
    · rw [h1 c0]
      intro out hF
      have hF : bud (c0 + o.2.2) (k o) = some out := hF
      rw [show bud (c0 + o.2.2) (k o) = none from if_neg hb0] at hF
      cases hF
end
