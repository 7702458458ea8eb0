/-! the pure part: closing a month, the ledger's side whole -/
variable {S S0 S1 S2 S' S'' S3 X : St} {ad : Nat → Nat} {b d j k : Nat} {v v0 v' v1 v2 u : Nat → Int64} {np nf no mo no' mo' : Nat}
theorem lp_ex {κ σ β : Type} (ap : κ → Nat → σ → Option β) (bot : κ) (bd : κ → κ) (N : Nat) (J : Nat → σ → Prop) (G : Option β → Prop) (h1 : ∀ k i s, i < N → J i s → ∃ s', J (i + 1) s' ∧ ap (bd k) i s = ap k (i + 1) s') (h2 : ∀ k s, J N s → G (ap (bd k) N s)) : ∀ (m fuel i : Nat) (s : σ), i + m = N → J i s → m < fuel → G (ap (lp bot bd fuel) i s) := by
  intro m
  induction m with
  | zero =>
    intro fuel i s hi hs hf
    cases fuel with
    | zero => omega
    | succ fuel =>
      have e : i = N := by omega
      subst e
      exact h2 _ s hs
  | succ m ih =>
    intro fuel i s hi hs hf
    cases fuel with
    | zero => omega
    | succ fuel =>
      obtain ⟨s', hs', e⟩ := h1 (lp bot bd fuel) i s (by omega) hs
      show G (ap (bd (lp bot bd fuel)) i s)
      rw [e]
      exact ih fuel (i + 1) s' (by omega) hs' (by omega)
theorem cl_some {α β : Type} {X : Option α} {f : α → Option β} {r : β} (h : cl X f = some r) : ∃ a, X = some a ∧ f a = some r := by
  cases X with
  | none => exact absurd h (by simp [cl])
  | some a => exact ⟨a, rfl, h⟩
def VA (v0 : Nat → Int64) (nf no mo i : Nat) : (Nat → Int64) × Int64 := itr (fun f (p : (Nat → Int64) × Int64) => (bl1 p.1 nf no mo f, p.2 + am p.1 nf f (sls p.1 no (nI f) 100) 1)) 0 i (v0, 0)
theorem VA_s (v0 : Nat → Int64) (nf no mo i : Nat) : VA v0 nf no mo (i + 1) = (bl1 (VA v0 nf no mo i).1 nf no mo i, (VA v0 nf no mo i).2 + am (VA v0 nf no mo i).1 nf i (sls (VA v0 nf no mo i).1 no (nI i) 100) 1) := by
  unfold VA
  rw [itr_succ, Nat.zero_add]
def K1 (S0 : St) (ad : Nat → Nat) (b : Nat) (v0 : Nat → Int64) (np nf no mo i : Nat) (S : St) (u : Nat → Int64) (x : Int64) : Prop :=
  MKw S0 S ad b v0 u np nf no mo ∧
  (∀ f q, f < i → q < 7 → u (1694 + 7 * (8 * mo + f) + q) = gJ S (ad (b + 34)) (7 * (8 * mo + f) + q)) ∧
  (∀ f, f < i → u (1214 + 8 * mo + f) = sls v0 no (nI f) 100) ∧
  (∀ f q, i ≤ f → f < nf → q < 16 → u (58 + 16 * f + q) = v0 (58 + 16 * f + q)) ∧
  (∀ f, f < i → (∃ g, g ≤ mo + 1 ∧ u (58 + 16 * f + 6) = lN g) ∧ (∃ g, g ≤ 16000000 * (mo + 1) ∧ u (58 + 16 * f + 7) = lN g) ∧ u (58 + 16 * f + 5) = v0 (58 + 16 * f + 5)) ∧
  (∀ k, (186 ≤ k ∧ k < 250) ∨ k ≤ 13 → u k = v0 k) ∧ ∃ C, C ≤ 16000000 * i ∧ x = lN C
theorem K1_0 (c : CV S0 ad b v0 np nf no mo) : K1 S0 ad b v0 np nf no mo 0 S0 v0 0 := ⟨MKw.rf c, fun f q hf => absurd hf (by omega), fun f hf => absurd hf (by omega), fun _ _ _ _ _ => rfl, fun f hf => absurd hf (by omega), fun _ _ => rfl, 0, by omega, rfl⟩
theorem K1_s (c : CV S0 ad b v0 np nf no mo) (ws : WS v0 nf mo) (hm : mo < 60) {i : Nat} {x : Int64} (hi : i < nf) (K : K1 S0 ad b v0 np nf no mo i S u x) : ∃ S', (cl (f_X1_calculate S (ad b) (nI i) (sls u no (nI i) 100)) fun (S66 : St) => f_X1_bill S66 (ad b) (nI i)) = some S' ∧ gJ S' (ad (b + 7)) 1 = am u nf i (sls u no (nI i) 100) 1 ∧ K1 S0 ad b v0 np nf no mo (i + 1) S' (bl1 u nf no mo i) (x + am u nf i (sls u no (nI i) 100) 1) := by
  obtain ⟨mk, k1, k2, k3, k4, k5, C, hC, eC⟩ := K
  have h8 := c.hf
  have h16 := c.ho
  have cu := mk.cv c
  obtain ⟨⟨g5, hg5, e5⟩, ⟨g, hg, e6⟩, ⟨h, hh, e7⟩⟩ := ws.1 i hi
  have u6 := (k3 i 6 (Nat.le_refl _) hi (by decide)).trans e6
  have u7 := (k3 i 7 (Nat.le_refl _) hi (by decide)).trans e7
  obtain ⟨S', hx, m2, r1, r34, r33⟩ := C_step1 cu hm hi u6 (by omega) u7 (by omega)
  obtain ⟨N, hN, eN⟩ := sls_N cu.w cu.ho (nI i)
  obtain ⟨c1, hc1, ec1⟩ := am_1 cu.w cu.hp hi (show N ≤ 160000000 by omega)
  rw [← eN] at ec1
  have es : sls u no (nI i) 100 = sls v0 no (nI i) 100 := sls_w (fun k hk => k5 k (Or.inl hk)) c.ho _ _
  refine ⟨S', hx, r1, mk.trans m2, fun f q hf hq => ?_, fun f hf => ?_, fun f q hf1 hf2 hq => ?_, fun f hf => ?_, fun k hk => ?_, C + c1, by omega, by rw [eC, ec1, lN_add]⟩
  · rw [r34]
    by_cases e : f = i
    · subst e
      rw [if_pos (by omega), show 7 * (8 * mo + f) + q - 7 * (8 * mo + f) = q by omega]
      unfold bl1
      rw [udt_n (by omega), udt_n (by omega)]
      have : bInv (udt u (1214 + 8 * mo + f) (sls u no (nI f) 100)) mo f (am u nf f (sls u no (nI f) 100)) (1694 + 7 * (8 * mo + f) + q) = am u nf f (sls u no (nI f) 100) q := by
        rw [bInv, if_pos (by omega), show 1694 + 7 * (8 * mo + f) + q - (1694 + 7 * (8 * mo + f)) = q by omega]
      cases act u f
      · exact this
      · simp only [if_true]; rw [udt_n (by omega)]; exact this
    · rw [if_neg (by omega), bl1_n (by omega) (by omega) (by omega)]
      exact k1 f q (by omega) hq
  · by_cases e : f = i
    · subst e
      rw [← es]
      unfold bl1
      rw [udt_n (by omega), udt_n (by omega)]
      have : bInv (udt u (1214 + 8 * mo + f) (sls u no (nI f) 100)) mo f (am u nf f (sls u no (nI f) 100)) (1214 + 8 * mo + f) = sls u no (nI f) 100 := by
        rw [bInv, if_neg (by omega), udt_e]
      cases act u f
      · exact this
      · simp only [if_true]; rw [udt_n (by omega)]; exact this
    · rw [bl1_n (by omega) (by omega) (by omega)]
      exact k2 f (by omega)
  · rw [bl1_n (by omega) (by omega) (by omega)]
    exact k3 f q (by omega) hf2 hq
  · by_cases e : f = i
    · subst e
      have q5 : bl1 u nf no mo f (58 + 16 * f + 5) = u (58 + 16 * f + 5) := bl1_q (by decide) (by decide) (by omega)
      refine ⟨?_, ?_, by rw [q5]; exact k3 f 5 (Nat.le_refl _) hi (by decide)⟩
      · unfold bl1
        rw [udt_n (by omega), udt_n (by omega)]
        cases act u f
        · refine ⟨g, by omega, ?_⟩
          simp only [Bool.false_eq_true, if_false]
          rw [bInv, if_neg (by omega), udt_n (by omega)]; exact u6
        · simp only [if_true]
          rw [udt_e]
          unfold bOv
          by_cases e4 : u (58 + 16 * f + 4) ≤ 0
          · rw [if_pos e4]; exact ⟨0, by omega, rfl⟩
          · rw [if_neg e4, u6, lN_1]; exact ⟨g + 1, by omega, rfl⟩
      · refine ⟨h + c1, by omega, ?_⟩
        unfold bl1
        rw [udt_e, u7, ec1, lN_add]
    · rw [bl1_n (by omega) (by omega) (by omega), bl1_n (by omega) (by omega) (by omega), bl1_n (by omega) (by omega) (by omega)]
      exact k4 f (by omega)
  · rw [bl1_n (by omega) (by omega) (by omega)]
    exact k5 k hk
theorem K1_all (c : CV S0 ad b v0 np nf no mo) (ws : WS v0 nf mo) (hm : mo < 60) : ∀ i, i ≤ nf → ∃ S, K1 S0 ad b v0 np nf no mo i S (VA v0 nf no mo i).1 (VA v0 nf no mo i).2 := by
  intro i
  induction i with
  | zero => intro _; exact ⟨S0, K1_0 c⟩
  | succ i ih =>
    intro hi
    obtain ⟨S, K⟩ := ih (by omega)
    obtain ⟨S', -, -, K'⟩ := K1_s c ws hm (by omega) K
    rw [VA_s]
    exact ⟨S', K'⟩
/-! the second loop -/
def VB (v : Nat → Int64) (mo i : Nat) : Nat → Int64 := itr (fun f u => bl2 u mo f) 0 i v
theorem VB_s (v : Nat → Int64) (mo i : Nat) : VB v mo (i + 1) = bl2 (VB v mo i) mo i := by
  unfold VB
  rw [itr_succ, Nat.zero_add]
def K2 (S0 : St) (ad : Nat → Nat) (b : Nat) (v0 : Nat → Int64) (np nf no mo i : Nat) (S : St) (u : Nat → Int64) : Prop :=
  MKw S0 S ad b v0 u np nf no mo ∧
  (∀ f q, f < nf → q < 7 → u (1694 + 7 * (8 * mo + f) + q) = gJ S (ad (b + 34)) (7 * (8 * mo + f) + q)) ∧
  (∀ f, f < nf → u (1214 + 8 * mo + f) = sls v0 no (nI f) 100) ∧
  (∀ f, f < i → gJ S (ad (b + 33)) (8 * mo + f) = sls v0 no (nI f) 100) ∧
  (∀ f, f < nf → (∃ g, g ≤ mo + 1 ∧ u (58 + 16 * f + 6) = lN g) ∧ (∃ g, g ≤ 16000000 * (mo + 1) ∧ u (58 + 16 * f + 7) = lN g) ∧ ∃ g, g ≤ mo + 1 ∧ (i ≤ f → g ≤ mo) ∧ u (58 + 16 * f + 5) = lN g) ∧
  (∀ k, 186 ≤ k ∧ k < 250 → u k = v0 k) ∧ ∃ a, a ≤ 25600000 * (mo + 1) ∧ u 11 = lN a
theorem K2_s (c : CV S0 ad b v0 np nf no mo) (hm : mo < 60) {i : Nat} (hi : i < nf) (K : K2 S0 ad b v0 np nf no mo i S u) : ∃ S', (∀ Kk : St → Option (Int32 × St), (cl (f_X1_finishTransfer S (ad b) (nI i)) fun (S40 : St) => lt (gR S40 (ad b) 5) fun (a41 : Nat) => lt (gR S40 (ad b) 3) fun (a43 : Nat) => lt (gR S40 a43 7) fun (a45 : Nat) => ldJ S40 a45 (nI i) fun (v47 : Int64) => cl (f_X0_enterBalance S40 a41 (nI i) v47) fun (S48 : St) => lt (gR S48 (ad b) 5) fun (a49 : Nat) => lt (gR S48 (ad b) 2) fun (a51 : Nat) => cl (f_X6_salesTogether S48 a51 (nI i)) fun (v53 : Int64) => cl (f_X0_enterSales S48 a49 (nI i) v53) fun (S54 : St) => Kk S54) = Kk S') ∧ K2 S0 ad b v0 np nf no mo (i + 1) S' (bl2 u mo i) := by
  obtain ⟨mk, k1, k2, k3, k4, k5, a, ha, ea⟩ := K
  have h8 := c.hf
  have h16 := c.ho
  have cu := mk.cv c
  obtain ⟨⟨g6, hg6, e6⟩, ⟨g7, hg7, e7⟩, ⟨g, hg, hgi, e5⟩⟩ := k4 i hi
  obtain ⟨S', hx, m2, r34, r33⟩ := C_step2 cu hm hi e5 (by have := hgi (Nat.le_refl _); omega)
  have es : sls u no (nI i) 100 = sls v0 no (nI i) 100 := sls_w (fun k hk => k5 k hk) c.ho _ _
  have hn : ∀ l, ¬ (58 + 16 * i ≤ l ∧ l < 58 + 16 * i + 16) → l ≠ 1694 + 7 * (8 * mo + i) + 6 → bl2 u mo i l = u l := fun l h1 h2 => by
    unfold bl2; rw [udt_n h2, tfW_n (by omega)]
  have hrow : ∀ q, q < 16 → bl2 u mo i (58 + 16 * i + q) = tfW u mo i (58 + 16 * i + q) := fun q hq => by unfold bl2; rw [udt_n (by omega)]
  refine ⟨S', hx, mk.trans m2, fun f q hf hq => ?_, fun f hf => ?_, fun f hf => ?_, fun f hf => ?_, fun k hk => ?_, a, ha, ?_⟩
  · rw [r34]
    by_cases e : f = i ∧ q = 6
    · obtain ⟨rfl, rfl⟩ := e
      rw [if_pos rfl, hrow 4 (by decide)]
      unfold bl2; rw [udt_e]
    · rw [if_neg (by omega), hn _ (by omega) (by omega)]
      exact k1 f q hf hq
  · rw [hn _ (by omega) (by omega)]; exact k2 f hf
  · rw [r33]
    by_cases e : f = i
    · subst e; rw [if_pos rfl, es]
    · rw [if_neg (by omega)]; exact k3 f (by omega)
  · by_cases e : f = i
    · subst e
      rw [hrow 6 (by decide), hrow 7 (by decide), hrow 5 (by decide)]
      refine ⟨?_, ⟨g7, hg7, by rw [tfW_q (by decide) (by decide)]; exact e7⟩, ?_⟩
      · unfold tfW
        cases tfC u mo f
        · exact ⟨g6, hg6, e6⟩
        · simp only [if_true, tfV]; rw [udt_n (by omega), udt_e]; exact ⟨0, by omega, rfl⟩
      · unfold tfW
        cases tfC u mo f
        · exact ⟨g, hg, by omega, e5⟩
        · simp only [if_true, tfV]; rw [udt_n (by omega), udt_n (by omega), udt_e, e5, lN_1]
          exact ⟨g + 1, by have := hgi (Nat.le_refl _); omega, by omega, rfl⟩
    · rw [hn _ (by omega) (by omega), hn _ (by omega) (by omega), hn _ (by omega) (by omega)]
      obtain ⟨q1, q2, gg, q3, q4, q5⟩ := k4 f hf
      exact ⟨q1, q2, gg, q3, fun h => q4 (by omega), q5⟩
  · rw [hn _ (by omega) (by omega)]; exact k5 k hk
  · rw [hn _ (by omega) (by omega)]; exact ea
