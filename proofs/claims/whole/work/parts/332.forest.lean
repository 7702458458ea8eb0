/-! objects that hold objects: forests of pools -/
/-- one array as a pool -/
theorem ar_pool {cy : Nat → ClassId} {q kd n : Nat} (hk : 12 ≤ kd ∧ kd ≤ 15) : plw cy [q] (fun _ => kd) ((fun _ _ => 0, fun _ _ => 0, fun _ _ => 0, fun _ => n) : St) = [(q, arE cy (q, kd, n))] := by
  simp only [plw, va_pl, List.map_cons, List.map_nil, ent, arE, gN]
  rcases (show kd = 12 ∨ kd = 13 ∨ kd = 14 ∨ kd = 15 by omega) with e | e | e | e <;> subst e <;> simp
/-- one object as a pool -/
theorem ob_pool {cy : Nat → ClassId} {h0 ci : Nat} (hci : ci < 12) (S : St) : plw cy [h0] (fun _ => ci) S = [(h0, .inr (ci, fvs S h0 0 (lay ci)))] := by
  simp only [plw, va_pl, List.map_cons, List.map_nil]
  rw [ent_obj (K := fun _ => ci) (a := h0) rfl hci]
def FO (L : List Nat) (K : Nat → Nat) (S : St) (rs : List Nat) : Prop := SH L K S ∧ rs.Nodup ∧ ∀ r ∈ rs, r ∈ L ∧ ∀ a ∈ L, ∀ i, RF K S a i → gR S a i ≠ r
theorem mK_1 {L1 L2 : List Nat} {K1 K2 : Nat → Nat} (h : ∀ a ∈ L1, a ∉ L2) {a : Nat} (ha : a ∈ L1) : mK L2 K1 K2 a = K1 a := by simp [mK, h a ha]
theorem mK_2 {L2 : List Nat} {K1 K2 : Nat → Nat} {a : Nat} (ha : a ∈ L2) : mK L2 K1 K2 a = K2 a := by simp [mK, ha]
theorem mS_1 {L1 L2 : List Nat} {S1 S2 : St} (h : ∀ a ∈ L1, a ∉ L2) {a : Nat} (ha : a ∈ L1) : (∀ i, gI (mS L2 S1 S2) a i = gI S1 a i) ∧ (∀ i, gJ (mS L2 S1 S2) a i = gJ S1 a i) ∧ (∀ i, gR (mS L2 S1 S2) a i = gR S1 a i) ∧ gN (mS L2 S1 S2) a = gN S1 a := by
  refine ⟨fun i => ?_, fun i => ?_, fun i => ?_, ?_⟩ <;> simp [gI, gJ, gR, gN, mS, h a ha]
theorem mS_2 {L2 : List Nat} {S1 S2 : St} {a : Nat} (ha : a ∈ L2) : (∀ i, gI (mS L2 S1 S2) a i = gI S2 a i) ∧ (∀ i, gJ (mS L2 S1 S2) a i = gJ S2 a i) ∧ (∀ i, gR (mS L2 S1 S2) a i = gR S2 a i) ∧ gN (mS L2 S1 S2) a = gN S2 a := by
  refine ⟨fun i => ?_, fun i => ?_, fun i => ?_, ?_⟩ <;> simp [gI, gJ, gR, gN, mS, ha]
theorem RF_1 {L1 L2 : List Nat} {K1 K2 : Nat → Nat} {S1 S2 : St} (h : ∀ a ∈ L1, a ∉ L2) {a i : Nat} (ha : a ∈ L1) : RF (mK L2 K1 K2) (mS L2 S1 S2) a i ↔ RF K1 S1 a i := by
  simp only [RF, mK_1 h ha, (mS_1 (S1 := S1) (S2 := S2) h ha).2.2.2]
theorem RF_2 {L2 : List Nat} {K1 K2 : Nat → Nat} {S1 S2 : St} {a i : Nat} (ha : a ∈ L2) : RF (mK L2 K1 K2) (mS L2 S1 S2) a i ↔ RF K2 S2 a i := by
  simp only [RF, mK_2 ha, (mS_2 (S1 := S1) (S2 := S2) ha).2.2.2]
theorem FO_app {L1 L2 : List Nat} {K1 K2 : Nat → Nat} {S1 S2 : St} {r1 r2 : List Nat} (h : ∀ a ∈ L1, a ∉ L2) (h1 : FO L1 K1 S1 r1) (h2 : FO L2 K2 S2 r2) : FO (L1 ++ L2) (mK L2 K1 K2) (mS L2 S1 S2) (r1 ++ r2) := by
  obtain ⟨⟨w1, n1, i1⟩, d1, q1⟩ := h1
  obtain ⟨⟨w2, n2, i2⟩, d2, q2⟩ := h2
  have g1 : ∀ a ∈ L1, ∀ i, gR (mS L2 S1 S2) a i = gR S1 a i := fun a ha => (mS_1 (S1 := S1) (S2 := S2) h ha).2.2.1
  have g2 : ∀ a ∈ L2, ∀ i, gR (mS L2 S1 S2) a i = gR S2 a i := fun a ha => (mS_2 (S1 := S1) (S2 := S2) ha).2.2.1
  have wt1 : ∀ a ∈ L1, ∀ i, RF K1 S1 a i → gR S1 a i ∈ L1 ∧ K1 (gR S1 a i) = rt (K1 a) i := fun a ha i hi => w1 a ha i hi
  have wt2 : ∀ a ∈ L2, ∀ i, RF K2 S2 a i → gR S2 a i ∈ L2 ∧ K2 (gR S2 a i) = rt (K2 a) i := fun a ha i hi => w2 a ha i hi
  refine ⟨⟨fun a ha i hi => ?_, fun a ha i hi h12 => ?_, fun a ha b hb i j hi hj e => ?_⟩, ?_, fun r hr => ?_⟩
  · rcases List.mem_append.mp ha with ha | ha
    · have hi := (RF_1 h ha).mp hi
      have := wt1 a ha i hi
      rw [g1 a ha, mK_1 h ha, mK_1 h this.1]
      exact ⟨List.mem_append_left _ this.1, this.2⟩
    · have hi := (RF_2 ha).mp hi
      have := wt2 a ha i hi
      rw [g2 a ha, mK_2 ha, mK_2 this.1]
      exact ⟨List.mem_append_right _ this.1, this.2⟩
  · rcases List.mem_append.mp ha with ha | ha
    · have hi := (RF_1 h ha).mp hi
      rw [mK_1 h ha] at h12 ⊢
      rw [g1 a ha, (mS_1 (S1 := S1) (S2 := S2) h (wt1 a ha i hi).1).2.2.2]
      exact n1 a ha i hi h12
    · have hi := (RF_2 ha).mp hi
      rw [mK_2 ha] at h12 ⊢
      rw [g2 a ha, (mS_2 (S1 := S1) (S2 := S2) (wt2 a ha i hi).1).2.2.2]
      exact n2 a ha i hi h12
  · rcases List.mem_append.mp ha with ha | ha <;> rcases List.mem_append.mp hb with hb | hb
    · rw [g1 a ha, g1 b hb] at e
      exact i1 a ha b hb i j ((RF_1 h ha).mp hi) ((RF_1 h hb).mp hj) e
    · rw [g1 a ha, g2 b hb] at e
      exact absurd (by rw [← e]; exact (wt1 a ha i ((RF_1 h ha).mp hi)).1) (fun z => h _ z (wt2 b hb j ((RF_2 hb).mp hj)).1)
    · rw [g2 a ha, g1 b hb] at e
      exact absurd (wt1 b hb j ((RF_1 h hb).mp hj)).1 (fun z => h _ z (by rw [← e]; exact (wt2 a ha i ((RF_2 ha).mp hi)).1))
    · rw [g2 a ha, g2 b hb] at e
      exact i2 a ha b hb i j ((RF_2 ha).mp hi) ((RF_2 hb).mp hj) e
  · rw [List.nodup_append]
    refine ⟨d1, d2, fun a ha b hb e => ?_⟩
    subst e
    exact h a (q1 a ha).1 (q2 a hb).1
  · rcases List.mem_append.mp hr with hr | hr
    · refine ⟨List.mem_append_left _ (q1 r hr).1, fun a ha i hi => ?_⟩
      rcases List.mem_append.mp ha with ha | ha
      · rw [g1 a ha]; exact (q1 r hr).2 a ha i ((RF_1 h ha).mp hi)
      · rw [g2 a ha]
        intro e
        exact h r (q1 r hr).1 (by rw [← e]; exact (wt2 a ha i ((RF_2 ha).mp hi)).1)
    · refine ⟨List.mem_append_right _ (q2 r hr).1, fun a ha i hi => ?_⟩
      rcases List.mem_append.mp ha with ha | ha
      · rw [g1 a ha]
        intro e
        exact h r (by rw [← e]; exact (wt1 a ha i ((RF_1 h ha).mp hi)).1) (q2 r hr).1
      · rw [g2 a ha]; exact (q2 r hr).2 a ha i ((RF_2 ha).mp hi)
theorem PI_FO {ci : Nat} {L : List Nat} {K : Nat → Nat} {S : St} {h0 : Nat} (h : PI ci L K S h0) : FO L K S [h0] := ⟨h.2.2.1, List.nodup_cons.mpr ⟨List.not_mem_nil, List.nodup_nil⟩, fun r hr => by
  rw [List.mem_singleton] at hr
  subst hr
  exact ⟨h.1, h.2.2.2.1⟩⟩
theorem ar_FO {q kd n : Nat} (hk : 12 ≤ kd ∧ kd ≤ 15) : FO [q] (fun _ => kd) ((fun _ _ => 0, fun _ _ => 0, fun _ _ => 0, fun _ => n) : St) [q] := by
  have no : ∀ a i, ¬ RF (fun _ => kd) ((fun _ _ => 0, fun _ _ => 0, fun _ _ => 0, fun _ => n) : St) a i := by
    intro a i h
    rcases h with h | h
    · rcases (show kd = 12 ∨ kd = 13 ∨ kd = 14 ∨ kd = 15 by omega) with e | e | e | e <;> subst e <;> simp [lay] at h
    · have h9 : kd = 16 := h.1
      omega
  exact ⟨⟨fun a _ i h => absurd h (no a i), fun a _ i h => absurd h (no a i), fun a _ b _ i j h => absurd h (no a i)⟩, List.nodup_cons.mpr ⟨List.not_mem_nil, List.nodup_nil⟩, fun r hr => ⟨hr, fun a _ i h => absurd h (no a i)⟩⟩
/-- an object over a forest: its references are the roots -/
theorem FO_top {L : List Nat} {K : Nat → Nat} {S : St} {rs : List Nat} {h0 ci : Nat} {S0 : St} (hci : ci < 12) (hf : FO L K S rs) (hn : h0 ∉ L) (hr : ∀ i, (lay ci)[i]? = some 2 → gR S0 h0 i ∈ rs ∧ K (gR S0 h0 i) = rt ci i ∧ (12 ≤ rt ci i → gN S (gR S0 h0 i) = lenF ci i)) (hinj : ∀ i j, (lay ci)[i]? = some 2 → (lay ci)[j]? = some 2 → gR S0 h0 i = gR S0 h0 j → i = j) : FO ([h0] ++ L) (mK L (fun _ => ci) K) (mS L S0 S) [h0] := by
  have h : ∀ a ∈ [h0], a ∉ L := fun a ha => by rw [List.mem_singleton.mp ha]; exact hn
  have hm : h0 ∈ [h0] := List.mem_singleton.mpr rfl
  obtain ⟨⟨w2, n2, i2⟩, d2, q2⟩ := hf
  have g1 : ∀ i, gR (mS L S0 S) h0 i = gR S0 h0 i := (mS_1 (S1 := S0) (S2 := S) h hm).2.2.1
  have g2 : ∀ a ∈ L, ∀ i, gR (mS L S0 S) a i = gR S a i := fun a ha => (mS_2 (S1 := S0) (S2 := S) ha).2.2.1
  have k1 : mK L (fun _ => ci) K h0 = ci := mK_1 h hm
  have r1 : ∀ i, RF (mK L (fun _ => ci) K) (mS L S0 S) h0 i → (lay ci)[i]? = some 2 := by
    intro i hi
    rcases hi with hi | hi
    · rw [k1] at hi; exact hi
    · rw [k1] at hi; omega
  have wt2 : ∀ a ∈ L, ∀ i, RF K S a i → gR S a i ∈ L ∧ K (gR S a i) = rt (K a) i := fun a ha i hi => w2 a ha i hi
  refine ⟨⟨fun a ha i hi => ?_, fun a ha i hi h12 => ?_, fun a ha b hb i j hi hj e => ?_⟩, List.nodup_cons.mpr ⟨List.not_mem_nil, List.nodup_nil⟩, fun r hr9 => ?_⟩
  · rcases List.mem_append.mp ha with ha1 | ha1
    · rw [List.mem_singleton.mp ha1] at hi ⊢
      obtain ⟨a1, a2, -⟩ := hr i (r1 i hi)
      have a3 := (q2 _ a1).1
      rw [g1, k1, mK_2 a3]
      exact ⟨List.mem_append_right _ a3, a2⟩
    · have hi := (RF_2 ha1).mp hi
      have := wt2 a ha1 i hi
      rw [g2 a ha1, mK_2 ha1, mK_2 this.1]
      exact ⟨List.mem_append_right _ this.1, this.2⟩
  · rcases List.mem_append.mp ha with ha1 | ha1
    · rw [List.mem_singleton.mp ha1] at hi h12 ⊢
      rw [k1] at h12 ⊢
      obtain ⟨a1, a2, a3⟩ := hr i (r1 i hi)
      rw [g1, (mS_2 (S1 := S0) (S2 := S) (q2 _ a1).1).2.2.2]
      exact a3 h12
    · have hi := (RF_2 ha1).mp hi
      rw [mK_2 ha1] at h12 ⊢
      rw [g2 a ha1, (mS_2 (S1 := S0) (S2 := S) (wt2 a ha1 i hi).1).2.2.2]
      exact n2 a ha1 i hi h12
  · rcases List.mem_append.mp ha with ha1 | ha1
    · rcases List.mem_append.mp hb with hb1 | hb1
      · rw [List.mem_singleton.mp ha1] at hi e ⊢
        rw [List.mem_singleton.mp hb1] at hj e ⊢
        rw [g1, g1] at e
        exact ⟨rfl, hinj i j (r1 i hi) (r1 j hj) e⟩
      · rw [List.mem_singleton.mp ha1] at hi e
        rw [g1, g2 b hb1] at e
        exact absurd e.symm ((q2 _ (hr i (r1 i hi)).1).2 b hb1 j ((RF_2 hb1).mp hj))
    · rcases List.mem_append.mp hb with hb1 | hb1
      · rw [List.mem_singleton.mp hb1] at hj e
        rw [g1, g2 a ha1] at e
        exact absurd e ((q2 _ (hr j (r1 j hj)).1).2 a ha1 i ((RF_2 ha1).mp hi))
      · rw [g2 a ha1, g2 b hb1] at e
        exact i2 a ha1 b hb1 i j ((RF_2 ha1).mp hi) ((RF_2 hb1).mp hj) e
  · rw [List.mem_singleton.mp hr9]
    refine ⟨List.mem_append_left _ hm, fun a ha i hi => ?_⟩
    rcases List.mem_append.mp ha with ha1 | ha1
    · rw [List.mem_singleton.mp ha1] at hi ⊢
      rw [g1]
      intro e
      exact hn (by rw [← e]; exact (q2 _ (hr i (r1 i hi)).1).1)
    · rw [g2 a ha1]
      intro e
      exact hn (by rw [← e]; exact (wt2 a ha1 i ((RF_2 ha1).mp hi)).1)
