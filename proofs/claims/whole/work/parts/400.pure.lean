/-! ===== the pure part: reading what has been written ===== -/
theorem gI_uI (S : St) (a i : Nat) (v : Int32) (b j : Nat) : gI (uI S a i v) b j = if b = a ∧ j = i then v else gI S b j := by
  simp only [gI, uI, up2]
  by_cases h1 : b = a <;> by_cases h2 : j = i <;> simp [h1, h2]
theorem gJ_uI (S : St) (a i : Nat) (v : Int32) (b j : Nat) : gJ (uI S a i v) b j = gJ S b j := rfl
theorem gR_uI (S : St) (a i : Nat) (v : Int32) (b j : Nat) : gR (uI S a i v) b j = gR S b j := rfl
theorem gN_uI (S : St) (a i : Nat) (v : Int32) (b : Nat) : gN (uI S a i v) b = gN S b := rfl
theorem gJ_uJ (S : St) (a i : Nat) (v : Int64) (b j : Nat) : gJ (uJ S a i v) b j = if b = a ∧ j = i then v else gJ S b j := by
  simp only [gJ, uJ, up2]
  by_cases h1 : b = a <;> by_cases h2 : j = i <;> simp [h1, h2]
theorem gI_uJ (S : St) (a i : Nat) (v : Int64) (b j : Nat) : gI (uJ S a i v) b j = gI S b j := rfl
theorem gR_uJ (S : St) (a i : Nat) (v : Int64) (b j : Nat) : gR (uJ S a i v) b j = gR S b j := rfl
theorem gN_uJ (S : St) (a i : Nat) (v : Int64) (b : Nat) : gN (uJ S a i v) b = gN S b := rfl
theorem gR_uR (S : St) (a i v b j : Nat) : gR (uR S a i v) b j = if b = a ∧ j = i then v else gR S b j := by
  simp only [gR, uR, up2]
  by_cases h1 : b = a <;> by_cases h2 : j = i <;> simp [h1, h2]
theorem gI_uR (S : St) (a i v b j : Nat) : gI (uR S a i v) b j = gI S b j := rfl
theorem gJ_uR (S : St) (a i v b j : Nat) : gJ (uR S a i v) b j = gJ S b j := rfl
theorem gN_uR (S : St) (a i v b : Nat) : gN (uR S a i v) b = gN S b := rfl
theorem gI_cpyI (S : St) (a sp b dp n c j : Nat) : gI (cpyI S a sp b dp n) c j = if c = b ∧ dp ≤ j ∧ j < dp + n then gI S a (sp + (j - dp)) else gI S c j := by
  simp only [gI, cpyI, va_cpy]
  by_cases h1 : c = b
  · subst h1; simp
  · simp [h1]
theorem gJ_cpyI (S : St) (a sp b dp n c j : Nat) : gJ (cpyI S a sp b dp n) c j = gJ S c j := rfl
theorem gR_cpyI (S : St) (a sp b dp n c j : Nat) : gR (cpyI S a sp b dp n) c j = gR S c j := rfl
theorem gN_cpyI (S : St) (a sp b dp n c : Nat) : gN (cpyI S a sp b dp n) c = gN S c := rfl
theorem gJ_cpyJ (S : St) (a sp b dp n c j : Nat) : gJ (cpyJ S a sp b dp n) c j = if c = b ∧ dp ≤ j ∧ j < dp + n then gJ S a (sp + (j - dp)) else gJ S c j := by
  simp only [gJ, cpyJ, va_cpy]
  by_cases h1 : c = b
  · subst h1; simp
  · simp [h1]
theorem gI_cpyJ (S : St) (a sp b dp n c j : Nat) : gI (cpyJ S a sp b dp n) c j = gI S c j := rfl
theorem gR_cpyJ (S : St) (a sp b dp n c j : Nat) : gR (cpyJ S a sp b dp n) c j = gR S c j := rfl
theorem gN_cpyJ (S : St) (a sp b dp n c : Nat) : gN (cpyJ S a sp b dp n) c = gN S c := rfl
/-- the same references and lengths -/
def SR0 (S S' : St) : Prop := (∀ a i, gR S' a i = gR S a i) ∧ ∀ a, gN S' a = gN S a
theorem SR0.rf (S : St) : SR0 S S := ⟨fun _ _ => rfl, fun _ => rfl⟩
theorem SR0.trans {S S' S'' : St} (h : SR0 S S') (h2 : SR0 S' S'') : SR0 S S'' := ⟨fun a i => (h2.1 a i).trans (h.1 a i), fun a => (h2.2 a).trans (h.2 a)⟩
theorem SR0_uI (S : St) (a i : Nat) (v : Int32) : SR0 S (uI S a i v) := ⟨fun _ _ => rfl, fun _ => rfl⟩
theorem SR0_uJ (S : St) (a i : Nat) (v : Int64) : SR0 S (uJ S a i v) := ⟨fun _ _ => rfl, fun _ => rfl⟩
theorem SR0_cpyI (S : St) (a sp b dp n : Nat) : SR0 S (cpyI S a sp b dp n) := ⟨fun _ _ => rfl, fun _ => rfl⟩
theorem SR0_cpyJ (S : St) (a sp b dp n : Nat) : SR0 S (cpyJ S a sp b dp n) := ⟨fun _ _ => rfl, fun _ => rfl⟩
theorem SH_SR0 {L : List Nat} {K : Nat → Nat} {S S' : St} (h : SR0 S S') (hs : SH L K S) : SH L K S' := by
  have hr : ∀ a i, RF K S' a i → RF K S a i := fun a i hi => hi.elim (fun q => Or.inl q) (fun q => Or.inr ⟨q.1, by rw [← h.2 a]; exact q.2⟩)
  refine ⟨fun a ha i hi => ?_, fun a ha i hi h12 => ?_, fun a ha b hb i j hi hj e => ?_⟩
  · rw [h.1]; exact hs.1 a ha i (hr a i hi)
  · rw [h.1, h.2]; exact hs.2.1 a ha i (hr a i hi) h12
  · rw [h.1, h.1] at e; exact hs.2.2 a ha b hb i j (hr a i hi) (hr b j hj) e
/-! reading and storing at places that are known -/
theorem ix_ok {i : Int32} {n N : Nat} (h : i = nI n) (hn : n < N) (hN : N < 2 ^ 31) : ¬ (i < 0 ∨ N ≤ i.toNatClampNeg) := by subst h; exact nI_in hn hN
theorem ldI_at {β : Type} {S : St} {a n : Nat} {k : Int32 → Option β} (hn : n < gN S a) (hN : gN S a < 2 ^ 31) : ldI S a (nI n) k = k (gI S a n) := by
  rw [ldI, if_neg (nI_in hn hN), nI_clamp (by omega)]
theorem ldJ_at {β : Type} {S : St} {a n : Nat} {k : Int64 → Option β} (hn : n < gN S a) (hN : gN S a < 2 ^ 31) : ldJ S a (nI n) k = k (gJ S a n) := by
  rw [ldJ, if_neg (nI_in hn hN), nI_clamp (by omega)]
theorem ldR_at {β : Type} {S : St} {a n : Nat} {k : Nat → Option β} (hn : n < gN S a) (hN : gN S a < 2 ^ 31) : ldR S a (nI n) k = k (gR S a n) := by
  rw [ldR, if_neg (nI_in hn hN), nI_clamp (by omega)]
theorem stI_at {β : Type} {S : St} {a n : Nat} {v : Int32} {k : St → Option β} (hn : n < gN S a) (hN : gN S a < 2 ^ 31) : stI S a (nI n) v k = k (uI S a n v) := by
  rw [stI, if_neg (nI_in hn hN), nI_clamp (by omega)]
theorem stJ_at {β : Type} {S : St} {a n : Nat} {v : Int64} {k : St → Option β} (hn : n < gN S a) (hN : gN S a < 2 ^ 31) : stJ S a (nI n) v k = k (uJ S a n v) := by
  rw [stJ, if_neg (nI_in hn hN), nI_clamp (by omega)]
/-! loops -/
def itr {σ : Type} (f : Nat → σ → σ) : Nat → Nat → σ → σ
  | _, 0, s => s
  | i, n + 1, s => itr f (i + 1) n (f i s)
theorem itr_succ {σ : Type} (f : Nat → σ → σ) : ∀ (n i : Nat) (s : σ), itr f i (n + 1) s = f (i + n) (itr f i n s) := by
  intro n
  induction n with
  | zero => intro i s; rfl
  | succ n ih =>
    intro i s
    rw [itr, ih (i + 1) (f i s), show i + 1 + n = i + (n + 1) by omega]
    rfl
/-- a loop that counts from i up to N -/
theorem lp_for {κ σ β : Type} (ap : κ → Nat → σ → Option β) (bot : κ) (bd : κ → κ) (N : Nat) (f : Nat → σ → σ) (ex : σ → Option β) (J : Nat → σ → Prop) (h1 : ∀ k i s, i < N → J i s → ap (bd k) i s = ap k (i + 1) (f i s)) (hJ : ∀ i s, i < N → J i s → J (i + 1) (f i s)) (h2 : ∀ k s, J N s → ap (bd k) N s = ex s) : ∀ (m fuel i : Nat) (s : σ), i + m = N → J i s → m < fuel → ap (lp bot bd fuel) i s = ex (itr f i m s) := by
  intro m
  induction m with
  | zero =>
    intro fuel i s hi hs hf
    cases fuel with
    | zero => omega
    | succ fuel =>
      have e : i = N := by omega
      subst e
      exact h2 _ s hs
  | succ m ih =>
    intro fuel i s hi hs hf
    cases fuel with
    | zero => omega
    | succ fuel =>
      show ap (bd (lp bot bd fuel)) i s = _
      rw [h1 _ i s (by omega) hs, ih fuel (i + 1) (f i s) (by omega) (hJ i s (by omega) hs) (by omega)]
      rfl
/-- the same, from the start, for the fuel that loops have -/
theorem lp_for0 {κ σ β : Type} (ap : κ → Nat → σ → Option β) (bot : κ) (bd : κ → κ) (N : Nat) (hN : N < 6000) (f : Nat → σ → σ) (ex : σ → Option β) (J : Nat → σ → Prop) (s : σ) (h0 : J 0 s) (h1 : ∀ k i s, i < N → J i s → ap (bd k) i s = ap k (i + 1) (f i s)) (hJ : ∀ i s, i < N → J i s → J (i + 1) (f i s)) (h2 : ∀ k s, J N s → ap (bd k) N s = ex s) : ap (lp bot bd FU) 0 s = ex (itr f 0 N s) := lp_for ap bot bd N f ex J h1 hJ h2 N FU 0 s (by omega) h0 hN
theorem itr_inv {σ : Type} {f : Nat → σ → σ} {N : Nat} (J : Nat → σ → Prop) (hJ : ∀ i s, i < N → J i s → J (i + 1) (f i s)) : ∀ (m i : Nat) (s : σ), i + m ≤ N → J i s → J (i + m) (itr f i m s) := by
  intro m
  induction m with
  | zero => intro i s _ h; exact h
  | succ m ih =>
    intro i s hi h
    have := ih (i + 1) (f i s) (by omega) (hJ i s (by omega) h)
    rw [show i + (m + 1) = i + 1 + m by omega]
    exact this
/-- a loop that may end early -/
theorem lp_find {κ σ β : Type} (ap : κ → Nat → σ → Option β) (bot : κ) (bd : κ → κ) (N : Nat) (c : Nat → σ → Prop) (hit : Nat → σ → Option β) (f : Nat → σ → σ) (ex : σ → Option β) (J : Nat → σ → Prop) (h1 : ∀ k i s, i < N → J i s → ¬ c i s → ap (bd k) i s = ap k (i + 1) (f i s)) (h3 : ∀ k i s, i < N → J i s → c i s → ap (bd k) i s = hit i s) (hJ : ∀ i s, i < N → J i s → ¬ c i s → J (i + 1) (f i s)) (h2 : ∀ k s, J N s → ap (bd k) N s = ex s) (r : Option β) : ∀ (m fuel i : Nat) (s : σ), i + m = N → J i s → m < fuel → ((∃ j, j < m ∧ (∀ l, l < j → ¬ c (i + l) (itr f i l s)) ∧ c (i + j) (itr f i j s) ∧ r = hit (i + j) (itr f i j s)) ∨ ((∀ l, l < m → ¬ c (i + l) (itr f i l s)) ∧ r = ex (itr f i m s))) → ap (lp bot bd fuel) i s = r := by
  intro m
  induction m with
  | zero =>
    intro fuel i s hi hs hf h
    cases fuel with
    | zero => omega
    | succ fuel =>
      have e : i = N := by omega
      subst e
      rcases h with ⟨j, hj, -⟩ | ⟨-, h⟩
      · omega
      · rw [h]; exact h2 _ s hs
  | succ m ih =>
    intro fuel i s hi hs hf h
    cases fuel with
    | zero => omega
    | succ fuel =>
      show ap (bd (lp bot bd fuel)) i s = r
      rcases h with ⟨j, hj, ha, hb, hc⟩ | ⟨ha, hc⟩
      · cases j with
        | zero =>
          have hb' : c i s := hb
          rw [h3 _ i s (by omega) hs hb', hc]
          rfl
        | succ j =>
          have h0 : ¬ c i s := ha 0 (by omega)
          rw [h1 _ i s (by omega) hs h0]
          refine ih fuel (i + 1) (f i s) (by omega) (hJ i s (by omega) hs h0) (by omega) (Or.inl ⟨j, by omega, fun l hl => ?_, ?_, ?_⟩)
          · have := ha (l + 1) (by omega)
            rw [show i + (l + 1) = i + 1 + l by omega] at this
            exact this
          · rw [show i + (j + 1) = i + 1 + j by omega] at hb; exact hb
          · rw [hc, show i + (j + 1) = i + 1 + j by omega]; rfl
      · have h0 : ¬ c i s := ha 0 (by omega)
        rw [h1 _ i s (by omega) hs h0]
        refine ih fuel (i + 1) (f i s) (by omega) (hJ i s (by omega) hs h0) (by omega) (Or.inr ⟨fun l hl => ?_, ?_⟩)
        · have := ha (l + 1) (by omega)
          rw [show i + (l + 1) = i + 1 + l by omega] at this
          exact this
        · rw [hc]; rfl
