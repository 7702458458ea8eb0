/-! the pure part: the end of closing a month -/
variable {S S1 S2 S' S'' S3 : St} {ad : Nat → Nat} {b d j k : Nat} {v v' v1 v2 : Nat → Int64} {np nf no mo no' mo' : Nat}
def zsV (v : Nat → Int64) (no : Nat) : Nat → Int64 := fun i => if 186 ≤ i ∧ (i - 186) % 4 = 3 ∧ (i - 186) / 4 < no then 0 else v i
def zdV (v : Nat → Int64) : Nat → Int64 := fun i => if 1150 ≤ i ∧ i < 1214 then 0 else v i
def enV (v : Nat → Int64) (no mo : Nat) : Nat → Int64 := udt (zdV (zsV v no)) 0 (lN (mo + 1))
def enS (S : St) (ad : Nat → Nat) (b mo : Nat) : St := uI (flJ (flJ S (ad (b + 18)) 0 16) (ad (b + 35)) 0 64) (ad (b + 6)) 6 (nI (mo + 1))
/-- the rows of the month that is being closed, on both sides -/
def INVm (S : St) (ad : Nat → Nat) (b : Nat) (v : Nat → Int64) (nf mo : Nat) : Prop := (∀ f, f < nf → v (1214 + 8 * mo + f) = gJ S (ad (b + 33)) (8 * mo + f) ∧ ∃ s, s ≤ 160000000 ∧ v (1214 + 8 * mo + f) = lN s) ∧ ∀ f q, f < nf → q < 7 → v (1694 + 7 * (8 * mo + f) + q) = gJ S (ad (b + 34)) (7 * (8 * mo + f) + q)
theorem MKw_end (c : CV S ad b v np nf no mo) (hm : mo < 60) (iv : INVm S ad b v nf mo) : MKw S (enS S ad b mo) ad b v (enV v no mo) np nf no (mo + 1) := by
  have h8 := c.hf
  have h16 := c.ho
  have h4 := c.hp
  have hb := c.2.1
  have t := c.t
  have rdJ : ∀ q l, gJ (enS S ad b mo) (ad (b + q)) l = if q = 35 ∧ l < 64 then 0 else if q = 18 ∧ l < 16 then 0 else gJ S (ad (b + q)) l := fun q l => by
    unfold enS
    rw [gJ_uI, gJ_flJ, gJ_flJ]
    simp only [t.1, Nat.add_left_cancel_iff]
  have rdI : ∀ q l, gI (enS S ad b mo) (ad (b + q)) l = if q = 6 ∧ l = 6 then nI (mo + 1) else gI S (ad (b + q)) l := fun q l => by
    unfold enS
    rw [gI_i t.1, gI_flJ, gI_flJ]
    simp only [Nat.add_left_cancel_iff]
  have H : ∀ i, i ≠ 0 → ¬ (1150 ≤ i ∧ i < 1214) → ¬ (186 ≤ i ∧ i < 250 ∧ (i - 186) % 4 = 3) → enV v no mo i = v i := fun i h0 h1 h2 => by
    unfold enV
    rw [udt_n h0, zdV, if_neg h1, zsV, if_neg (by omega)]
  have hs3 : ∀ o, o < no → enV v no mo (186 + 4 * o + 3) = 0 := fun o ho => by
    unfold enV
    rw [udt_n (by omega), zdV, if_neg (by omega), zsV, if_pos (by omega)]
  have hd : ∀ i, i < 64 → enV v no mo (1150 + i) = 0 := fun i hi => by
    unfold enV
    rw [udt_n (by omega), zdV, if_pos (by omega)]
  have ch : Ch S (enS S ad b mo) ad (fun p => p = b + 18 ∨ p = b + 35 ∨ p = b + 6) := by
    refine ⟨⟨fun _ _ => rfl, fun _ => rfl⟩, fun p hp hn i => ?_, fun l hl => ?_⟩
    · unfold enS
      rw [gI_i t.1, gI_flJ, gI_flJ, gJ_uI, gJ_flJ, gJ_flJ, if_neg (by omega)]
      simp only [t.1]
      rw [if_neg (by omega), if_neg (by omega)]
      exact ⟨trivial, rfl⟩
    · unfold enS
      rw [gI_i t.1, gI_flJ, gI_flJ, if_neg (by omega)]
  refine ⟨ch.mono ?_, ⟨fun l hl => ?_, ⟨?_, fun o ho => ?_⟩, fun f hf => ?_, fun f hf => ?_, ?_⟩, ?_, ⟨fun i hi => H i (by omega) (by omega) (by omega), fun f hf => H _ (by omega) (by omega) (by omega)⟩, fun i hi => H i (by omega) (by omega) (by omega), by rw [H 3 (by omega) (by omega) (by omega)]; exact c.m.2.2.2.2.1, udt_e _ _ _, c.ho, by omega⟩
  · rintro p (e | e | e)
    · exact Or.inr ⟨18, by unfold MQ2; omega, e⟩
    · exact Or.inr ⟨35, by unfold MQ2; omega, e⟩
    · exact Or.inr ⟨6, by unfold MQ2; omega, e⟩
  · rw [H _ (by omega) (by omega) (by omega), rdI, if_neg (by omega)]; exact c.G l hl
  · rw [rdI, if_neg (by omega)]; exact c.O.1
  · rw [H (186 + 4 * o + 0) (by omega) (by omega) (by omega), H (186 + 4 * o + 1) (by omega) (by omega) (by omega), H (186 + 4 * o + 2) (by omega) (by omega) (by omega), hs3 o ho, rdI, rdI, rdI, rdJ, if_neg (by omega), if_neg (by omega), if_neg (by omega), if_neg (by omega), if_pos (by omega)]
    obtain ⟨a0, a1, a2, -⟩ := c.O.2 o ho
    exact ⟨a0, a1, a2, rfl⟩
  · rw [H _ (by omega) (by omega) (by omega), H _ (by omega) (by omega) (by omega), H _ (by omega) (by omega) (by omega), H _ (by omega) (by omega) (by omega), H _ (by omega) (by omega) (by omega), H _ (by omega) (by omega) (by omega), rdI, rdI, rdI, rdI, rdI, rdJ, if_neg (by omega), if_neg (by omega), if_neg (by omega), if_neg (by omega), if_neg (by omega), if_neg (by omega), if_neg (by omega)]
    exact c.F f hf
  · rw [H _ (by omega) (by omega) (by omega), H _ (by omega) (by omega) (by omega), H _ (by omega) (by omega) (by omega), H _ (by omega) (by omega) (by omega), H _ (by omega) (by omega) (by omega), H _ (by omega) (by omega) (by omega), H _ (by omega) (by omega) (by omega)]
    simp only [rdI, rdJ, show ¬ (27 = 6) by decide, show ¬ (28 = 6) by decide, show ¬ (29 = 6) by decide, show ¬ (31 = 6) by decide, show ¬ (32 = 6) by decide, show ¬ (30 = 35) by decide, show ¬ (30 = 18) by decide, false_and, if_false]
    obtain ⟨a1, a2, a3⟩ := c.R f hf
    exact ⟨a1, fun h => by obtain ⟨b1, b2, k, hk, b3⟩ := a2 h; exact ⟨b1, b2, k, by omega, b3⟩, a3⟩
  · obtain ⟨a1, a2, a3, a4, a5, a6, a7⟩ := c.B
    refine ⟨by rw [rdI, if_pos ⟨rfl, rfl⟩], fun k hk => by rw [hd k hk, rdJ, if_pos ⟨rfl, hk⟩], fun k hk => by rw [H _ (by omega) (by omega) (by omega), rdJ, if_neg (by omega), if_neg (by omega)]; exact a3 k hk, fun f hf => by rw [H _ (by omega) (by omega) (by omega), H _ (by omega) (by omega) (by omega), rdJ, rdJ, if_neg (by omega), if_neg (by omega), if_neg (by omega), if_neg (by omega)]; exact a4 f hf, fun f h1 h2 => by rw [rdJ, if_neg (by omega), if_neg (by omega)]; exact a5 f h1 h2, fun k f hk hf => ?_, fun k f q hk hf hq => ?_⟩
    · rw [H _ (by omega) (by omega) (by omega), rdJ, if_neg (by omega), if_neg (by omega)]
      by_cases e : k = mo
      · subst e; exact (iv.1 f hf).1
      · exact a6 k f (by omega) hf
    · rw [H _ (by omega) (by omega) (by omega), rdJ, if_neg (by omega), if_neg (by omega)]
      by_cases e : k = mo
      · subst e; exact iv.2 f q hf hq
      · exact a7 k f q (by omega) hf hq
  · obtain ⟨a1, ap, af, ao, ac, ad0, as, ar⟩ := c.w
    refine ⟨?_, fun q hq => by rw [H _ (by omega) (by omega) (by omega)]; exact ap q hq, fun h hh => ?_, fun o ho => ?_, fun l hl => by rw [H _ (by omega) (by omega) (by omega)]; exact ac l hl, fun i hi => hd (9 * i) (by omega), ?_, fun k g hk hg => ?_⟩
    · rw [H 4 (by omega) (by omega) (by omega), H 5 (by omega) (by omega) (by omega), H 6 (by omega) (by omega) (by omega), H 7 (by omega) (by omega) (by omega), H 8 (by omega) (by omega) (by omega), H 9 (by omega) (by omega) (by omega)]; exact a1
    · rw [H _ (by omega) (by omega) (by omega), H _ (by omega) (by omega) (by omega), H _ (by omega) (by omega) (by omega), H _ (by omega) (by omega) (by omega)]; exact af h hh
    · obtain ⟨⟨x, y, hx, hy, e1, e2, e3⟩, s, hs, e4⟩ := ao o ho
      refine ⟨⟨x, y, hx, hy, by rw [H _ (by omega) (by omega) (by omega)]; exact e1, by rw [H _ (by omega) (by omega) (by omega)]; exact e2, ?_⟩, 0, by omega, hs3 o ho⟩
      rw [H (186 + 4 * o + 0) (by omega) (by omega) (by omega), H (250 + (30 * y + x)) (by omega) (by omega) (by omega)]; exact e3
    · rw [H 11 (by omega) (by omega) (by omega), H 12 (by omega) (by omega) (by omega), H 13 (by omega) (by omega) (by omega)]; exact as
    · rw [H _ (by omega) (by omega) (by omega)]
      by_cases e : k = mo
      · subst e; exact (iv.1 g hg).2
      · exact ar k g (by omega) hg
theorem zsV_char (v : Nat → Int64) : ∀ n, itr (fun o w => udt w (186 + 4 * o + 3) 0) 0 n v = zsV v n := by
  intro n
  induction n with
  | zero => funext i; show v i = zsV v 0 i; rw [zsV, if_neg (by omega)]
  | succ n ih =>
    rw [itr_succ, ih, Nat.zero_add]
    funext i
    unfold udt zsV
    by_cases h : i = 186 + 4 * n + 3
    · rw [if_pos h, if_pos (by omega)]
    · rw [if_neg h]
      by_cases h2 : 186 ≤ i ∧ (i - 186) % 4 = 3 ∧ (i - 186) / 4 < n
      · rw [if_pos h2, if_pos (by omega)]
      · rw [if_neg h2, if_neg (by omega)]
theorem zdV_char (v : Nat → Int64) : itr (fun i w => udt w i 0) 1150 64 v = zdV v := by
  have : ∀ n, itr (fun i w => udt w i 0) 1150 n v = fun i => if 1150 ≤ i ∧ i < 1150 + n then 0 else v i := by
    intro n
    induction n with
    | zero => funext i; show v i = _; rw [if_neg (by omega)]
    | succ n ih =>
      rw [itr_succ, ih]
      funext i
      unfold udt
      by_cases h : i = 1150 + n
      · rw [if_pos h, if_pos (by omega)]
      · rw [if_neg h]
        show (if 1150 ≤ i ∧ i < 1150 + n then 0 else v i) = _
        by_cases h2 : 1150 ≤ i ∧ i < 1150 + n
        · rw [if_pos h2, if_pos (by omega)]
        · rw [if_neg h2, if_neg (by omega)]
  rw [this 64]
  rfl
