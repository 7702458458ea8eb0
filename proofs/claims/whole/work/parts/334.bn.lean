/-- what stands of an object's parts while it is made: a forest, the kinds of its roots, all numbers 0 -/
def BN (L : List Nat) (K : Nat → Nat) (S : St) (rs ks : List Nat) : Prop := FO L K S rs ∧ rs.map K = ks ∧ ∀ a i, gI S a i = 0 ∧ gJ S a i = 0
theorem mS_zero {L2 : List Nat} {S1 S2 : St} (h1 : ∀ a i, gI S1 a i = 0 ∧ gJ S1 a i = 0) (h2 : ∀ a i, gI S2 a i = 0 ∧ gJ S2 a i = 0) : ∀ a i, gI (mS L2 S1 S2) a i = 0 ∧ gJ (mS L2 S1 S2) a i = 0 := by
  intro a i
  have a1 := h1 a i
  have a2 := h2 a i
  simp only [gI, gJ] at a1 a2
  simp only [gI, gJ, mS]
  by_cases h : a ∈ L2
  · simp [h, a2.1, a2.2]
  · simp [h, a1.1, a1.2]
theorem BN_0 : BN [] (fun _ => 0) ((fun _ _ => 0, fun _ _ => 0, fun _ _ => 0, fun _ => 0) : St) [] [] := ⟨⟨⟨fun a h => absurd h List.not_mem_nil, fun a h => absurd h List.not_mem_nil, fun a h => absurd h List.not_mem_nil⟩, List.nodup_nil, fun r h => absurd h List.not_mem_nil⟩, rfl, fun _ _ => ⟨rfl, rfl⟩⟩
theorem map_mK1 {L1 L2 : List Nat} {K1 K2 : Nat → Nat} (h : ∀ a ∈ L1, a ∉ L2) {rs : List Nat} (hr : ∀ r ∈ rs, r ∈ L1) : rs.map (mK L2 K1 K2) = rs.map K1 := List.map_congr_left (fun r h9 => mK_1 h (hr r h9))
theorem BN_app {L L2 : List Nat} {K K2 : Nat → Nat} {S S2 : St} {rs ks : List Nat} {ci q : Nat} (hb : BN L K S rs ks) (hd : ∀ a ∈ L, a ∉ L2) (hp : PI ci L2 K2 S2 q) : BN (L ++ L2) (mK L2 K K2) (mS L2 S S2) (rs ++ [q]) (ks ++ [ci]) := by
  refine ⟨FO_app hd hb.1 (PI_FO hp), ?_, mS_zero hb.2.2 hp.2.2.2.2⟩
  rw [List.map_append, map_mK1 hd (fun r h => (hb.1.2.2 r h).1), hb.2.1]
  simp [mK_2 hp.1, hp.2.1]
theorem BN_arr {L : List Nat} {K : Nat → Nat} {S : St} {rs ks : List Nat} {q kd n : Nat} (hb : BN L K S rs ks) (hk : 12 ≤ kd ∧ kd ≤ 15) (hd : ∀ a ∈ L, a ∉ [q]) : BN (L ++ [q]) (mK [q] K (fun _ => kd)) (mS [q] S ((fun _ _ => 0, fun _ _ => 0, fun _ _ => 0, fun _ => n) : St)) (rs ++ [q]) (ks ++ [kd]) ∧ gN (mS [q] S ((fun _ _ => 0, fun _ _ => 0, fun _ _ => 0, fun _ => n) : St)) q = n := by
  have hm : q ∈ [q] := List.mem_singleton.mpr rfl
  refine ⟨⟨FO_app hd hb.1 (ar_FO hk), ?_, mS_zero hb.2.2 (fun _ _ => ⟨rfl, rfl⟩)⟩, (mS_2 hm).2.2.2⟩
  rw [List.map_append, map_mK1 hd (fun r h => (hb.1.2.2 r h).1), hb.2.1]
  simp [mK_2 hm]
/-- the object that holds them -/
theorem BN_top {L : List Nat} {K : Nat → Nat} {S : St} {rs ks : List Nat} {h0 ci : Nat} (hci : ci < 12) (hb : BN L K S rs ks) (hn : h0 ∉ L) (hlen : ∀ i, (lay ci)[i]? = some 2 → i < rs.length) (hk : ∀ i k, (lay ci)[i]? = some 2 → ks[i]? = some k → k = rt ci i) (hN : ∀ i r, (lay ci)[i]? = some 2 → 12 ≤ rt ci i → rs[i]? = some r → gN S r = lenF ci i) : PI ci ([h0] ++ L) (mK L (fun _ => ci) K) (mS L ((fun _ _ => 0, fun _ _ => 0, fun _ k => (rs[k]?).getD 0, fun _ => 0) : St) S) h0 := by
  have hg : ∀ i : Nat, gR ((fun _ _ => 0, fun _ _ => 0, fun _ k => (rs[k]?).getD 0, fun _ => 0) : St) h0 i = (rs[i]?).getD 0 := fun i => rfl
  have hat : ∀ i : Nat, (lay ci)[i]? = some 2 → ∃ r : Nat, rs[i]? = some r ∧ (rs[i]?).getD 0 = r ∧ r ∈ rs ∧ ks[i]? = some (K r) := by
    intro i hi
    have h1 := List.getElem?_eq_getElem (hlen i hi)
    refine ⟨_, h1, by rw [h1]; rfl, List.getElem_mem _, ?_⟩
    rw [← hb.2.1, List.getElem?_map, h1]
    rfl
  have hf := FO_top (S0 := ((fun _ _ => 0, fun _ _ => 0, fun _ k => (rs[k]?).getD 0, fun _ => 0) : St)) hci hb.1 hn (fun i hi => by
    obtain ⟨r, h1, h2, h3, h4⟩ := hat i hi
    rw [hg, h2]
    exact ⟨h3, hk i _ hi h4, fun h12 => hN i r hi h12 h1⟩) (fun i j hi hj e => by
    rw [hg, hg] at e
    exact nd_inj hb.1.2.1 (hlen i hi) (hlen j hj) e)
  have hm : h0 ∈ [h0] := List.mem_singleton.mpr rfl
  have hd : ∀ a ∈ [h0], a ∉ L := fun a ha => by rw [List.mem_singleton] at ha; subst ha; exact hn
  exact ⟨List.mem_append_left _ hm, mK_1 hd hm, hf.1, (hf.2.2 h0 hm).2, mS_zero (fun _ _ => ⟨rfl, rfl⟩) hb.2.2⟩
