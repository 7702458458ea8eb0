/-! new objects: worlds that are lists and pools -/
theorem P_left {D : va_G} {cl : List vw_C} {w1 w2 : va_W} {H : Heap} (h : va_P D cl (w1 ++ w2) H) : va_P D cl w1 H := fun k q hk => h k q (by rw [List.getElem?_append_left (List.getElem?_eq_some_iff.mp hk).1]; exact hk)
theorem P_right {D : va_G} {cl : List vw_C} {w1 w2 : va_W} {H : Heap} (h : va_P D cl (w1 ++ w2) H) : va_P D cl w2 H := fun k q hk => h (w1.length + k) q (by rw [List.getElem?_append_right (by omega), Nat.add_sub_cancel_left]; exact hk)
theorem D_left {A : Nat → Prop} {w1 w2 : va_W} (h : va_D A (w1 ++ w2)) : va_D A w1 := ⟨fun i j p q hi hj e => h.1 i j p q (by rw [List.getElem?_append_left (List.getElem?_eq_some_iff.mp hi).1]; exact hi) (by rw [List.getElem?_append_left (List.getElem?_eq_some_iff.mp hj).1]; exact hj) e, fun k q hk => h.2 k q (by rw [List.getElem?_append_left (List.getElem?_eq_some_iff.mp hk).1]; exact hk)⟩
theorem D_right {A : Nat → Prop} {w1 w2 : va_W} (h : va_D A (w1 ++ w2)) : va_D A w2 := ⟨fun i j p q hi hj e => by
    have := h.1 (w1.length + i) (w1.length + j) p q (by rw [List.getElem?_append_right (by omega), Nat.add_sub_cancel_left]; exact hi) (by rw [List.getElem?_append_right (by omega), Nat.add_sub_cancel_left]; exact hj) e
    omega, fun k q hk => h.2 (w1.length + k) q (by rw [List.getElem?_append_right (by omega), Nat.add_sub_cancel_left]; exact hk)⟩
theorem D_apart {A : Nat → Prop} {w1 w2 : va_W} (h : va_D A (w1 ++ w2)) {i j : Nat} {p q : Nat × va_E} (hi : w1[i]? = some p) (hj : w2[j]? = some q) : p.1 ≠ q.1 := by
  intro e
  have hl := (List.getElem?_eq_some_iff.mp hi).1
  have := h.1 i (w1.length + j) p q (by rw [List.getElem?_append_left hl]; exact hi) (by rw [List.getElem?_append_right (by omega), Nat.add_sub_cancel_left]; exact hj) e
  omega
/-- behind a call on the last part of a world -/
theorem va_joinA {A0 : Nat → Prop} {D : va_G} {cl : List vw_C} {wa wb wb' : va_W} {H H1 : Heap} (hP : va_P D cl (wa ++ wb) H) (hD : va_D A0 (wa ++ wb)) (hk : ∀ q : Nat, q < H.size → ¬ va_A wb H.size q → H1[q]? = H[q]?) (hF : ∀ q, va_A wb H.size q → A0 q) (hP1 : va_P D cl wb' H1) (hD1 : va_D (va_A wb H.size) wb') : va_P D cl (wa ++ wb') H1 ∧ va_D A0 (wa ++ wb') := by
  have ap : ∀ (k : Nat) (q : Nat × va_E), wa[k]? = some q → q.1 < H.size ∧ ¬ va_A wb H.size q.1 := by
    intro k q hq
    have hl := (P_left hP k q hq).lt
    refine ⟨hl, fun h => ?_⟩
    rcases h with ⟨j, e, h⟩ | h
    · exact D_apart hD hq h rfl
    · omega
  refine ⟨va_P.app (fun k q hq => ?_) hP1, va_D.app (D_left hD) (hD1.weaken (fun k q _ h => hF q.1 h)) (fun i j x y hx hy hxy => ?_)⟩
  · obtain ⟨g1, g2⟩ := ap k q hq
    exact (P_left hP k q hq).kept (hk q.1 g1 g2)
  · exact (ap i x hx).2 (by rw [hxy]; exact hD1.2 j y hy)
/-! two pools in one -/
def mK (L2 : List Nat) (K1 K2 : Nat → Nat) : Nat → Nat := fun a => if a ∈ L2 then K2 a else K1 a
def mS (L2 : List Nat) (S1 S2 : St) : St := (fun a i => if a ∈ L2 then S2.1 a i else S1.1 a i, fun a i => if a ∈ L2 then S2.2.1 a i else S1.2.1 a i, fun a i => if a ∈ L2 then S2.2.2.1 a i else S1.2.2.1 a i, fun a => if a ∈ L2 then S2.2.2.2 a else S1.2.2.2 a)
theorem ent_congr {cy : Nat → ClassId} {K K' : Nat → Nat} {S S' : St} {a : Nat} (hK : K' a = K a) (h1 : S'.1 a = S.1 a) (h2 : S'.2.1 a = S.2.1 a) (h3 : S'.2.2.1 a = S.2.2.1 a) (h4 : S'.2.2.2 a = S.2.2.2 a) : ent cy K' S' a = ent cy K S a := by
  simp only [ent, gN]
  rw [hK, h1, h2, h3, h4]
  rw [fvs_eq (S := S') (S' := S) (a := a) (b := a) (lay (K a)) 0 (fun k t _ => by simp only [fv, gI, gJ, gR]; rw [h1, h2, h3])]
theorem plw_app {cy : Nat → ClassId} {L1 L2 : List Nat} {K1 K2 : Nat → Nat} {S1 S2 : St} (h : ∀ a ∈ L1, a ∉ L2) : plw cy (L1 ++ L2) (mK L2 K1 K2) (mS L2 S1 S2) = plw cy L1 K1 S1 ++ plw cy L2 K2 S2 := by
  simp only [plw, va_pl, List.map_append]
  congr 1
  · refine List.map_congr_left (fun a ha => ?_)
    have h9 := h a ha
    rw [ent_congr (K := K1) (S := S1) (by simp [mK, h9]) (by funext i; simp [mS, h9]) (by funext i; simp [mS, h9]) (by funext i; simp [mS, h9]) (by simp [mS, h9])]
  · refine List.map_congr_left (fun a ha => ?_)
    rw [ent_congr (K := K2) (S := S2) (by simp [mK, ha]) (by funext i; simp [mS, ha]) (by funext i; simp [mS, ha]) (by funext i; simp [mS, ha]) (by simp [mS, ha])]
theorem pl_disj {cy : Nat → ClassId} {A : Nat → Prop} {L1 L2 : List Nat} {K1 K2 : Nat → Nat} {S1 S2 : St} (hD : va_D A (plw cy L1 K1 S1 ++ plw cy L2 K2 S2)) : ∀ a ∈ L1, a ∉ L2 := by
  intro a h1 h2
  obtain ⟨i, hi⟩ := pl_get (cy := cy) (K := K1) (S := S1) h1
  obtain ⟨j, hj⟩ := pl_get (cy := cy) (K := K2) (S := S2) h2
  exact D_apart hD hi hj rfl
/-! a leaf: an object and its arrays -/
def lfF (as : List (Nat × Nat × Nat)) (a : Nat) : Nat × Nat := match as with
  | [] => (99, 0)
  | t :: r => if t.1 = a then t.2 else lfF r a
def lfK (h0 ci : Nat) (as : List (Nat × Nat × Nat)) : Nat → Nat := fun a => if a = h0 then ci else (lfF as a).1
def lfS (h0 : Nat) (rf : Nat → Nat) (i0 : Nat → Int32) (as : List (Nat × Nat × Nat)) : St := (fun a i => if a = h0 then i0 i else 0, fun _ _ => 0, fun a k => if a = h0 then rf k else 0, fun a => if a = h0 then 0 else (lfF as a).2)
def arE (cy : Nat → ClassId) (t : Nat × Nat × Nat) : va_E := if t.2.1 = 12 then .inl (cy 0, t.2.2, .inl (fun _ => 0)) else if t.2.1 = 13 then .inl (cy 1, t.2.2, .inl (fun _ => 0)) else if t.2.1 = 14 then .inl (cy 2, t.2.2, .inr (.inl (fun _ => 0))) else .inl (cy 3, t.2.2, .inl (fun _ => 0))
theorem lfF_mem : ∀ (as : List (Nat × Nat × Nat)), (as.map (fun t => t.1)).Nodup → ∀ t ∈ as, lfF as t.1 = t.2 := by
  intro as
  induction as with
  | nil => intro _ t h; cases h
  | cons u r ih =>
    intro hn t ht
    rw [List.map_cons, List.nodup_cons] at hn
    rcases List.mem_cons.mp ht with h | h
    · subst h; simp [lfF]
    · have hne : u.1 ≠ t.1 := fun e => hn.1 (by rw [e]; exact List.mem_map.mpr ⟨t, h, rfl⟩)
      simp only [lfF, if_neg hne]
      exact ih hn.2 t h
theorem lf_pool {cy : Nat → ClassId} {h0 ci : Nat} {rf : Nat → Nat} {i0 : Nat → Int32} {as : List (Nat × Nat × Nat)} (hci : ci < 12) (hk : ∀ t ∈ as, 12 ≤ t.2.1 ∧ t.2.1 ≤ 15) (hnd : (h0 :: as.map (fun t => t.1)).Nodup) : plw cy (h0 :: as.map (fun t => t.1)) (lfK h0 ci as) (lfS h0 rf i0 as) = (h0, .inr (ci, fvs (lfS h0 rf i0 as) h0 0 (lay ci))) :: as.map (fun t => (t.1, arE cy t)) := by
  rw [List.nodup_cons] at hnd
  simp only [plw, va_pl, List.map_cons, List.map_map]
  rw [ent_obj (K := lfK h0 ci as) (a := h0) (by simp [lfK]) hci]
  congr 1
  refine List.map_congr_left (fun t ht => ?_)
  have hne : t.1 ≠ h0 := fun e => hnd.1 (by rw [← e]; exact List.mem_map.mpr ⟨t, ht, rfl⟩)
  have hf := lfF_mem as hnd.2 t ht
  have hkt := hk t ht
  have hK : lfK h0 ci as t.1 = t.2.1 := by simp [lfK, hne, hf]
  have hN : gN (lfS h0 rf i0 as) t.1 = t.2.2 := by simp [gN, lfS, hne, hf]
  have h1 : (lfS h0 rf i0 as).1 t.1 = fun _ => 0 := by funext i; simp [lfS, hne]
  have h2 : (lfS h0 rf i0 as).2.1 t.1 = fun _ => 0 := by funext i; simp [lfS]
  simp only [Function.comp, ent, arE]
  rw [hK, hN, h1, h2]
  rcases (show t.2.1 = 12 ∨ t.2.1 = 13 ∨ t.2.1 = 14 ∨ t.2.1 = 15 by omega) with e | e | e | e <;> simp [e]
/-- array classes have one number -/
theorem cy_eq {G : va_G} {cl : List vw_C} {t1 : List (ClassId × FieldType)} {s : State} {c1 c2 : ClassId} {ty : FieldType} (hK : va_K G cl t1 s) {i j : Nat} (h1 : t1[i]? = some (c1, ty)) (h2 : t1[j]? = some (c2, ty)) (ho : ∀ C, ty ≠ .object C) : c1 = c2 := by
  have a1 := (hK.2 i _ h1).2
  have a2 := (hK.2 j _ h2).2
  cases ty with
  | object C => exact absurd rfl (ho C)
  | _ => exact Option.some.inj (Eq.trans (Eq.symm a1) a2)
/-- the shape of a pool: typed, lengths as they must be, every cell reached by one way alone -/
def RF (K : Nat → Nat) (S : St) (a i : Nat) : Prop := (lay (K a))[i]? = some 2 ∨ (K a = 16 ∧ i < gN S a)
def lenF : Nat → Nat → Nat := fun k i => match k with
  | 0 => [480, 3360, 64, 8, 8, 3].getD i 0
  | 1 => 7
  | 2 => [80, 8, 8, 8, 8, 8, 8, 8].getD i 0
  | 3 => 900
  | 4 => 256
  | 5 => 40
  | 6 => 16
  | 7 => [4, 4, 20, 20].getD i 0
  | 8 => 1500
  | 9 => 8
  | 10 => 2
  | 11 => [20216, 2, 0, 900, 900, 7, 300, 0, 1500, 0, 0, 0, 0, 0, 0, 0, 0, 200, 200].getD i 0
  | _ => 0
def SH (L : List Nat) (K : Nat → Nat) (S : St) : Prop := WT L K S ∧ (∀ a ∈ L, ∀ i, RF K S a i → 12 ≤ rt (K a) i → gN S (gR S a i) = lenF (K a) i) ∧ ∀ a ∈ L, ∀ b ∈ L, ∀ i j, RF K S a i → RF K S b j → gR S a i = gR S b j → a = b ∧ i = j
/-- a new object of kind ci at h0, root of its pool, all numbers 0 -/
def PI (ci : Nat) (L : List Nat) (K : Nat → Nat) (S : St) (h0 : Nat) : Prop := h0 ∈ L ∧ K h0 = ci ∧ SH L K S ∧ (∀ a ∈ L, ∀ i, RF K S a i → gR S a i ≠ h0) ∧ ∀ a i, gI S a i = 0 ∧ gJ S a i = 0
theorem lf_PI {h0 ci : Nat} {rf : Nat → Nat} {as : List (Nat × Nat × Nat)} (hci : ci < 12) (hk : ∀ t ∈ as, 12 ≤ t.2.1 ∧ t.2.1 ≤ 15) (hnd : (h0 :: as.map (fun t => t.1)).Nodup) (hr : ∀ i, (lay ci)[i]? = some 2 → ∃ n, (rf i, rt ci i, n) ∈ as ∧ (12 ≤ rt ci i → n = lenF ci i)) (hi : ∀ i j, (lay ci)[i]? = some 2 → (lay ci)[j]? = some 2 → rf i = rf j → i = j) : PI ci (h0 :: as.map (fun t => t.1)) (lfK h0 ci as) (lfS h0 rf (fun _ => 0) as) h0 := by
  rw [List.nodup_cons] at hnd
  have hK0 : lfK h0 ci as h0 = ci := by simp [lfK]
  have hKt : ∀ t ∈ as, t.1 ≠ h0 ∧ lfK h0 ci as t.1 = t.2.1 ∧ gN (lfS h0 rf (fun _ => 0) as) t.1 = t.2.2 := by
    intro t ht
    have hne : t.1 ≠ h0 := fun e => hnd.1 (by rw [← e]; exact List.mem_map.mpr ⟨t, ht, rfl⟩)
    have hf := lfF_mem as hnd.2 t ht
    exact ⟨hne, by simp [lfK, hne, hf], by simp [gN, lfS, hne, hf]⟩
  have only : ∀ a ∈ h0 :: as.map (fun t => t.1), ∀ i, RF (lfK h0 ci as) (lfS h0 rf (fun _ => 0) as) a i → a = h0 ∧ (lay ci)[i]? = some 2 := by
    intro a ha i h
    rcases List.mem_cons.mp ha with e | e
    · subst e
      rcases h with h | h
      · rw [hK0] at h; exact ⟨rfl, h⟩
      · rw [hK0] at h; omega
    · obtain ⟨t, ht, rfl⟩ := List.mem_map.mp e
      have h2 := hk t ht
      obtain ⟨q1, q2, q3⟩ := hKt t ht
      rcases h with h | h
      · rw [q2] at h
        rcases (show t.2.1 = 12 ∨ t.2.1 = 13 ∨ t.2.1 = 14 ∨ t.2.1 = 15 by omega) with e | e | e | e <;> (rw [e] at h; simp [lay] at h)
      · rw [q2] at h; omega
  have hR : ∀ i, gR (lfS h0 rf (fun _ => 0) as) h0 i = rf i := fun i => by simp [gR, lfS]
  refine ⟨List.mem_cons_self, hK0, ⟨fun a ha i h => ?_, fun a ha i h h12 => ?_, fun a ha b hb i j h1 h2 e => ?_⟩, fun a ha i h => ?_, fun a i => ⟨?_, rfl⟩⟩
  · obtain ⟨rfl, h2⟩ := only a ha i h
    obtain ⟨n, hn, -⟩ := hr i h2
    rw [hR, hK0]
    exact ⟨List.mem_cons_of_mem _ (List.mem_map.mpr ⟨_, hn, rfl⟩), (hKt _ hn).2.1⟩
  · obtain ⟨rfl, h2⟩ := only a ha i h
    rw [hK0] at h12
    obtain ⟨n, hn, h3⟩ := hr i h2
    rw [hR, hK0, (hKt _ hn).2.2]
    exact h3 h12
  · obtain ⟨rfl, h3⟩ := only a ha i h1
    obtain ⟨rfl, h4⟩ := only b hb j h2
    rw [hR, hR] at e
    exact ⟨rfl, hi i j h3 h4 e⟩
  · obtain ⟨rfl, h2⟩ := only a ha i h
    obtain ⟨n, hn, -⟩ := hr i h2
    rw [hR]
    exact (hKt _ hn).1
  · simp [gI, lfS]
