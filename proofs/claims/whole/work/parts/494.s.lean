/-! the start: names of the cells -/
def pthT : List (Nat × Nat × List Nat) := [(0, 0, []), (1, 1, []), (2, 2, []), (3, 1, [0]), (4, 1, [1]), (5, 1, [3]), (6, 1, [4]), (7, 1, [5]), (8, 1, [6]), (9, 1, [8]), (10, 1, [17]), (11, 1, [18]), (12, 0, [0]), (13, 0, [0, 0]), (14, 0, [1]), (15, 0, [0, 1]), (16, 0, [2]), (17, 0, [0, 2]), (18, 0, [1, 2]), (19, 0, [2, 2]), (20, 0, [3]), (21, 0, [4]), (22, 0, [7]), (23, 0, [0, 7]), (24, 0, [1, 7]), (25, 0, [2, 7]), (26, 0, [3, 7]), (27, 0, [4, 7]), (28, 0, [5, 7]), (29, 0, [6, 7]), (30, 0, [8]), (31, 0, [0, 8]), (32, 0, [1, 8]), (33, 0, [2, 8]), (34, 0, [3, 8]), (35, 0, [4, 8]), (36, 0, [5, 8]), (37, 0, [6, 8]), (40, 0, [5]), (41, 0, [0, 5]), (42, 0, [1, 5]), (43, 0, [2, 5]), (44, 0, [3, 5]), (45, 0, [4, 5]), (46, 0, [5, 5]), (47, 0, [6, 5]), (48, 0, [0, 0, 5]), (49, 0, [1, 0, 5]), (50, 0, [2, 0, 5]), (51, 0, [3, 0, 5]), (52, 0, [0, 1, 5]), (53, 0, [1, 1, 5]), (54, 0, [2, 1, 5]), (55, 0, [0, 2, 5]), (56, 0, [1, 2, 5]), (57, 0, [2, 2, 5]), (58, 0, [3, 2, 5]), (59, 0, [0, 3, 5]), (60, 0, [1, 3, 5]), (61, 0, [2, 3, 5]), (62, 0, [3, 3, 5]), (63, 0, [4, 3, 5]), (64, 0, [5, 3, 5]), (65, 0, [6, 3, 5]), (66, 0, [7, 3, 5]), (67, 0, [0, 4, 5]), (68, 0, [1, 4, 5]), (69, 0, [2, 4, 5]), (70, 0, [3, 4, 5]), (71, 0, [4, 4, 5]), (72, 0, [5, 4, 5]), (73, 0, [0, 5, 5]), (74, 0, [1, 5, 5]), (75, 0, [2, 5, 5]), (76, 0, [3, 5, 5]), (77, 0, [4, 5, 5]), (78, 0, [5, 5, 5]), (80, 0, [6]), (81, 0, [0, 6]), (82, 0, [1, 6]), (83, 0, [2, 6]), (84, 0, [3, 6]), (85, 0, [4, 6]), (86, 0, [5, 6]), (87, 0, [6, 6]), (88, 0, [0, 0, 6]), (89, 0, [1, 0, 6]), (90, 0, [2, 0, 6]), (91, 0, [3, 0, 6]), (92, 0, [0, 1, 6]), (93, 0, [1, 1, 6]), (94, 0, [2, 1, 6]), (95, 0, [0, 2, 6]), (96, 0, [1, 2, 6]), (97, 0, [2, 2, 6]), (98, 0, [3, 2, 6]), (99, 0, [0, 3, 6]), (100, 0, [1, 3, 6]), (101, 0, [2, 3, 6]), (102, 0, [3, 3, 6]), (103, 0, [4, 3, 6]), (104, 0, [5, 3, 6]), (105, 0, [6, 3, 6]), (106, 0, [7, 3, 6]), (107, 0, [0, 4, 6]), (108, 0, [1, 4, 6]), (109, 0, [2, 4, 6]), (110, 0, [3, 4, 6]), (111, 0, [4, 4, 6]), (112, 0, [5, 4, 6]), (113, 0, [0, 5, 6]), (114, 0, [1, 5, 6]), (115, 0, [2, 5, 6]), (116, 0, [3, 5, 6]), (117, 0, [4, 5, 6]), (118, 0, [5, 5, 6]), (120, 0, [0, 3]), (121, 0, [0, 0, 3]), (122, 0, [1, 0, 3]), (123, 0, [2, 0, 3]), (124, 0, [3, 0, 3]), (125, 0, [4, 0, 3]), (126, 0, [5, 0, 3]), (127, 0, [6, 0, 3]), (128, 0, [0, 0, 0, 3]), (129, 0, [1, 0, 0, 3]), (130, 0, [2, 0, 0, 3]), (131, 0, [3, 0, 0, 3]), (132, 0, [0, 1, 0, 3]), (133, 0, [1, 1, 0, 3]), (134, 0, [2, 1, 0, 3]), (135, 0, [0, 2, 0, 3]), (136, 0, [1, 2, 0, 3]), (137, 0, [2, 2, 0, 3]), (138, 0, [3, 2, 0, 3]), (139, 0, [0, 3, 0, 3]), (140, 0, [1, 3, 0, 3]), (141, 0, [2, 3, 0, 3]), (142, 0, [3, 3, 0, 3]), (143, 0, [4, 3, 0, 3]), (144, 0, [5, 3, 0, 3]), (145, 0, [6, 3, 0, 3]), (146, 0, [7, 3, 0, 3]), (147, 0, [0, 4, 0, 3]), (148, 0, [1, 4, 0, 3]), (149, 0, [2, 4, 0, 3]), (150, 0, [3, 4, 0, 3]), (151, 0, [4, 4, 0, 3]), (152, 0, [5, 4, 0, 3]), (153, 0, [0, 5, 0, 3]), (154, 0, [1, 5, 0, 3]), (155, 0, [2, 5, 0, 3]), (156, 0, [3, 5, 0, 3]), (157, 0, [4, 5, 0, 3]), (158, 0, [5, 5, 0, 3]), (160, 0, [1, 3]), (161, 0, [0, 1, 3]), (162, 0, [1, 1, 3]), (163, 0, [2, 1, 3]), (164, 0, [3, 1, 3]), (165, 0, [4, 1, 3]), (166, 0, [5, 1, 3]), (167, 0, [6, 1, 3]), (168, 0, [0, 0, 1, 3]), (169, 0, [1, 0, 1, 3]), (170, 0, [2, 0, 1, 3]), (171, 0, [3, 0, 1, 3]), (172, 0, [0, 1, 1, 3]), (173, 0, [1, 1, 1, 3]), (174, 0, [2, 1, 1, 3]), (175, 0, [0, 2, 1, 3]), (176, 0, [1, 2, 1, 3]), (177, 0, [2, 2, 1, 3]), (178, 0, [3, 2, 1, 3]), (179, 0, [0, 3, 1, 3]), (180, 0, [1, 3, 1, 3]), (181, 0, [2, 3, 1, 3]), (182, 0, [3, 3, 1, 3]), (183, 0, [4, 3, 1, 3]), (184, 0, [5, 3, 1, 3]), (185, 0, [6, 3, 1, 3]), (186, 0, [7, 3, 1, 3]), (187, 0, [0, 4, 1, 3]), (188, 0, [1, 4, 1, 3]), (189, 0, [2, 4, 1, 3]), (190, 0, [3, 4, 1, 3]), (191, 0, [4, 4, 1, 3]), (192, 0, [5, 4, 1, 3]), (193, 0, [0, 5, 1, 3]), (194, 0, [1, 5, 1, 3]), (195, 0, [2, 5, 1, 3]), (196, 0, [3, 5, 1, 3]), (197, 0, [4, 5, 1, 3]), (198, 0, [5, 5, 1, 3])]
def pth (c : Nat) : Option (Nat × List Nat) := (pthT.find? (fun t => t.1 == c)).map (fun t => t.2)
def gop (S : St) (x m o : Nat) (r : Nat) : List Nat → Nat
  | [] => if r = 0 then x else if r = 1 then m else o
  | i :: t => gR S (gop S x m o r t) i
def adn (S : St) (x m o base : Nat) (c : Nat) : Nat := match pth c with
  | some q => gop S x m o q.1 q.2
  | none => base + c
def kdp (r : Nat) : List Nat → Option Nat
  | [] => some (if r = 0 then 10 else if r = 1 then 11 else 14)
  | i :: t => match kdp r t with
    | some k => if (lay k)[i]? = some 2 ∨ (k = 16 ∧ i < 2) then some (rt k i) else none
    | none => none
theorem pth_mem {c : Nat} {q : Nat × List Nat} (h : pth c = some q) : (c, q) ∈ pthT := by
  unfold pth at h
  rw [Option.map_eq_some_iff] at h
  obtain ⟨t, h1, h2⟩ := h
  have h3 := List.find?_some h1
  have h4 := List.mem_of_find?_eq_some h1
  have h5 : t.1 = c := by simpa using h3
  rw [← h2, ← h5]
  exact h4
set_option maxRecDepth 100000 in
theorem pth_ok : pthT.all (fun t => decide (t.2.1 < 3) && (kdp t.2.1 t.2.2).isSome) = true := by decide +kernel
set_option maxRecDepth 100000 in
theorem pth_inj : pthT.all (fun a => pthT.all (fun b => !(decide (a.2 = b.2)) || decide (a.1 = b.1))) = true := by decide +kernel
set_option maxRecDepth 100000 in
theorem pth_r : rtab.all (fun t => match pth t.1, pth t.2.2 with
  | some a, some b => decide (b = (a.1, t.2.1 :: a.2))
  | _, _ => false) = true := by decide +kernel
set_option maxRecDepth 100000 in
theorem pth_n : ntab.all (fun t => (decide (t.1 = 2) && decide (t.2 = 1)) || match pth t.1 with
  | some (r, i :: s) => (match kdp r s with
    | some k => decide ((lay k)[i]? = some 2) && decide (12 ≤ rt k i) && decide (lenF k i = t.2)
    | none => false)
  | _ => false) = true := by decide +kernel
theorem pth_k {c : Nat} {q : Nat × List Nat} (h : pth c = some q) : q.1 < 3 ∧ ∃ k, kdp q.1 q.2 = some k := by
  have h1 := List.all_eq_true.mp pth_ok _ (pth_mem h)
  rw [Bool.and_eq_true, decide_eq_true_eq] at h1
  exact ⟨h1.1, Option.isSome_iff_exists.mp h1.2⟩
theorem pth_e {c c' : Nat} {q : Nat × List Nat} (h : pth c = some q) (h' : pth c' = some q) : c = c' := by
  have h1 := List.all_eq_true.mp (List.all_eq_true.mp pth_inj _ (pth_mem h)) _ (pth_mem h')
  simpa using h1
theorem lay_12 (k : Nat) : lay (k + 12) = [] := rfl
theorem rt_16 : ∀ k, k < 12 → ∀ i, i < 22 → (lay k)[i]? = some 2 → rt k i = 16 → lenF k i = 2 := by decide +kernel
theorem rt_16' {k i : Nat} (h : (lay k)[i]? = some 2) (h2 : rt k i = 16) : lenF k i = 2 := by
  have hk : k < 12 := by
    rcases Nat.lt_or_ge k 12 with q | q
    · exact q
    · obtain ⟨j, rfl⟩ : ∃ j, k = j + 12 := ⟨k - 12, by omega⟩
      rw [lay_12] at h; simp at h
  have hl : ∀ k, k < 12 → (lay k).length ≤ 22 := by decide
  have hi := (List.getElem?_eq_some_iff.mp h).1
  exact rt_16 k hk i (by have := hl k hk; omega) h h2
section
variable {S : St} {L : List Nat} {K : Nat → Nat} {x m o base : Nat}
theorem gop_k (hf : FO L K S [x, m, o]) (kx : K x = 10) (km : K m = 11) (ko : K o = 14) {r : Nat} : ∀ (t : List Nat) (k : Nat), kdp r t = some k → gop S x m o r t ∈ L ∧ K (gop S x m o r t) = k ∧ (k = 16 → gN S (gop S x m o r t) = 2) := by
  intro t
  induction t with
  | nil =>
    intro k h
    have h : (if r = 0 then 10 else if r = 1 then 11 else 14) = k := Option.some.inj h
    show (if r = 0 then x else if r = 1 then m else o) ∈ L ∧ K (if r = 0 then x else if r = 1 then m else o) = k ∧ (k = 16 → gN S (if r = 0 then x else if r = 1 then m else o) = 2)
    have hx := (hf.2.2 x (by simp)).1
    have hm := (hf.2.2 m (by simp)).1
    have ho := (hf.2.2 o (by simp)).1
    by_cases h0 : r = 0
    · rw [if_pos h0] at h ⊢; exact ⟨hx, kx.trans h, fun z => absurd (h.trans z) (by decide)⟩
    · by_cases h1 : r = 1
      · rw [if_neg h0, if_pos h1] at h ⊢; exact ⟨hm, km.trans h, fun z => absurd (h.trans z) (by decide)⟩
      · rw [if_neg h0, if_neg h1] at h ⊢; exact ⟨ho, ko.trans h, fun z => absurd (h.trans z) (by decide)⟩
  | cons i t ih =>
    intro k h
    rw [kdp] at h
    cases hk : kdp r t with
    | none => rw [hk] at h; cases h
    | some k' =>
      rw [hk] at h
      have h : (if (lay k')[i]? = some 2 ∨ (k' = 16 ∧ i < 2) then some (rt k' i) else none) = some k := h
      by_cases hc : (lay k')[i]? = some 2 ∨ (k' = 16 ∧ i < 2)
      · rw [if_pos hc] at h
        have h : rt k' i = k := Option.some.inj h
        obtain ⟨a1, a2, a3⟩ := ih k' hk
        have rf : RF K S (gop S x m o r t) i := by
          rcases hc with hc | hc
          · exact Or.inl (by rw [a2]; exact hc)
          · exact Or.inr ⟨a2.trans hc.1, by rw [a3 hc.1]; exact hc.2⟩
        have w := hf.1.1 _ a1 i rf
        show gR S (gop S x m o r t) i ∈ L ∧ K (gR S (gop S x m o r t) i) = k ∧ (k = 16 → gN S (gR S (gop S x m o r t) i) = 2)
        refine ⟨w.1, w.2.trans (by rw [a2]; exact h), fun z => ?_⟩
        have h16 : rt k' i = 16 := h.trans z
        rw [hf.1.2.1 _ a1 i rf (by rw [a2, h16]; decide), a2]
        rcases hc with hc | hc
        · exact rt_16' hc h16
        · rw [hc.1] at h16; exact absurd (show (1 : Nat) = 16 from h16) (by decide)
      · rw [if_neg hc] at h; cases h
theorem gop_rf (hf : FO L K S [x, m, o]) (kx : K x = 10) (km : K m = 11) (ko : K o = 14) {r i k : Nat} {t : List Nat} (h : kdp r (i :: t) = some k) : ∃ k', kdp r t = some k' ∧ RF K S (gop S x m o r t) i := by
  rw [kdp] at h
  cases hk : kdp r t with
  | none => rw [hk] at h; cases h
  | some k' =>
    rw [hk] at h
    have h : (if (lay k')[i]? = some 2 ∨ (k' = 16 ∧ i < 2) then some (rt k' i) else none) = some k := h
    obtain ⟨a1, a2, a3⟩ := gop_k hf kx km ko t k' hk
    refine ⟨k', rfl, ?_⟩
    by_cases hc : (lay k')[i]? = some 2 ∨ (k' = 16 ∧ i < 2)
    · rcases hc with hc | hc
      · exact Or.inl (by rw [a2]; exact hc)
      · exact Or.inr ⟨a2.trans hc.1, by rw [a3 hc.1]; exact hc.2⟩
    · rw [if_neg hc] at h; cases h
theorem gop_inj (hf : FO L K S [x, m, o]) (kx : K x = 10) (km : K m = 11) (ko : K o = 14) {r r' : Nat} (hr : r < 3) (hr' : r' < 3) : ∀ (t t' : List Nat) (k k' : Nat), kdp r t = some k → kdp r' t' = some k' → gop S x m o r t = gop S x m o r' t' → r = r' ∧ t = t' := by
  have nd := hf.2.1
  have root : ∀ r, gop S x m o r [] ∈ [x, m, o] := fun r => by
    show (if r = 0 then x else if r = 1 then m else o) ∈ [x, m, o]
    by_cases h0 : r = 0
    · rw [if_pos h0]; simp
    · by_cases h1 : r = 1
      · rw [if_neg h0, if_pos h1]; simp
      · rw [if_neg h0, if_neg h1]; simp
  intro t
  induction t with
  | nil =>
    intro t' k k' h h' e
    cases t' with
    | nil =>
      refine ⟨?_, rfl⟩
      have e : (if r = 0 then x else if r = 1 then m else o) = (if r' = 0 then x else if r' = 1 then m else o) := e
      simp only [List.nodup_cons, List.mem_cons, List.not_mem_nil, or_false, not_or, List.nodup_nil, and_true, not_false_eq_true] at nd
      rcases (show r = 0 ∨ r = 1 ∨ r = 2 by omega) with rfl | rfl | rfl <;> rcases (show r' = 0 ∨ r' = 1 ∨ r' = 2 by omega) with rfl | rfl | rfl <;> first | rfl | (exfalso; simp at e; omega)
    | cons i s =>
      obtain ⟨k2, h2, rf⟩ := gop_rf hf kx km ko h'
      exact absurd e.symm ((hf.2.2 _ (root r)).2 _ (gop_k hf kx km ko s k2 h2).1 i rf)
  | cons i t ih =>
    intro t' k k' h h' e
    obtain ⟨k1, h1, rf1⟩ := gop_rf hf kx km ko h
    cases t' with
    | nil => exact absurd e ((hf.2.2 _ (root r')).2 _ (gop_k hf kx km ko t k1 h1).1 i rf1)
    | cons j s =>
      obtain ⟨k2, h2, rf2⟩ := gop_rf hf kx km ko h'
      obtain ⟨e1, e2⟩ := hf.1.2.2 _ (gop_k hf kx km ko t k1 h1).1 _ (gop_k hf kx km ko s k2 h2).1 i j rf1 rf2 e
      obtain ⟨e3, e4⟩ := ih s k1 k2 h1 h2 e1
      exact ⟨e3, by rw [e2, e4]⟩
theorem adn_s {c : Nat} {q : Nat × List Nat} (h : pth c = some q) : adn S x m o base c = gop S x m o q.1 q.2 := by
  unfold adn; rw [h]
theorem adn_n {c : Nat} (h : pth c = none) : adn S x m o base c = base + c := by
  unfold adn; rw [h]
theorem adn_in (hf : FO L K S [x, m, o]) (kx : K x = 10) (km : K m = 11) (ko : K o = 14) {c : Nat} {q : Nat × List Nat} (h : pth c = some q) : adn S x m o base c ∈ L := by
  obtain ⟨-, k, hk⟩ := pth_k h
  rw [adn_s h]
  exact (gop_k hf kx km ko q.2 k hk).1
theorem TR_0 (hf : FO L K S [x, m, o]) (kx : K x = 10) (km : K m = 11) (ko : K o = 14) (no : gN S o = 1) (hb : ∀ a ∈ L, a < base) : TR S (adn S x m o base) := by
  refine ⟨fun p q => ⟨fun e => ?_, fun e => by rw [e]⟩, fun k p i c e => ?_, fun k p n e => ?_⟩
  · cases hp : pth p with
    | none =>
      cases hq : pth q with
      | none => rw [adn_n hp, adn_n hq] at e; omega
      | some b =>
        have := hb _ (adn_in (base := base) hf kx km ko hq)
        rw [adn_n hp] at e; omega
    | some a =>
      have h1 := hb _ (adn_in (base := base) hf kx km ko hp)
      cases hq : pth q with
      | none => rw [adn_n hq] at e; omega
      | some b =>
        rw [adn_s hp, adn_s hq] at e
        obtain ⟨r1, k1, h1⟩ := pth_k hp
        obtain ⟨r2, k2, h2⟩ := pth_k hq
        obtain ⟨e1, e2⟩ := gop_inj hf kx km ko r1 r2 a.2 b.2 k1 k2 h1 h2 e
        exact pth_e hp (by rw [hq]; congr 1; exact (Prod.ext e1 e2).symm)
  · have h1 := List.all_eq_true.mp pth_r _ (List.mem_of_getElem? e)
    simp only at h1
    cases hp : pth p with
    | none => rw [hp] at h1; cases h1
    | some a =>
      cases hc : pth c with
      | none => rw [hp, hc] at h1; cases h1
      | some b =>
        rw [hp, hc] at h1
        have h2 : b = (a.1, i :: a.2) := of_decide_eq_true h1
        rw [adn_s hp, adn_s hc, h2]
        rfl
  · have h1 := List.all_eq_true.mp pth_n _ (List.mem_of_getElem? e)
    simp only [Bool.or_eq_true, Bool.and_eq_true, decide_eq_true_eq] at h1
    rcases h1 with ⟨z1, z2⟩ | h1
    · subst z1; subst z2
      rw [adn_s (q := (2, [])) (by decide)]
      exact no
    · cases hp : pth p with
      | none => rw [hp] at h1; cases h1
      | some a =>
        obtain ⟨r, t⟩ := a
        cases t with
        | nil => rw [hp] at h1; cases h1
        | cons i s =>
          rw [hp] at h1
          cases hk : kdp r s with
          | none => simp only [hk] at h1; cases h1
          | some k' =>
            simp only [hk, Bool.and_eq_true, decide_eq_true_eq] at h1
            obtain ⟨⟨z1, z2⟩, z3⟩ := h1
            obtain ⟨a1, a2, a3⟩ := gop_k hf kx km ko s k' hk
            rw [adn_s hp]
            show gN S (gR S (gop S x m o r s) i) = n
            rw [hf.1.2.1 _ a1 i (Or.inl (by rw [a2]; exact z1)) (by rw [a2]; exact z2), a2]
            exact z3
end
theorem FO_cg {L : List Nat} {K : Nat → Nat} {S S' : St} {rs : List Nat} (h : ∀ a ∈ L, (∀ i, gR S' a i = gR S a i) ∧ gN S' a = gN S a) (hf : FO L K S rs) : FO L K S' rs := by
  have rf : ∀ a ∈ L, ∀ i, RF K S' a i → RF K S a i := fun a ha i hi => hi.elim Or.inl (fun q => Or.inr ⟨q.1, by rw [← (h a ha).2]; exact q.2⟩)
  refine ⟨⟨fun a ha i hi => ?_, fun a ha i hi h12 => ?_, fun a ha b hb i j hi hj e => ?_⟩, hf.2.1, fun r hr => ⟨(hf.2.2 r hr).1, fun a ha i hi => ?_⟩⟩
  · rw [(h a ha).1]; exact hf.1.1 a ha i (rf a ha i hi)
  · have w := hf.1.1 a ha i (rf a ha i hi)
    rw [(h a ha).1, (h _ w.1).2]; exact hf.1.2.1 a ha i (rf a ha i hi) h12
  · rw [(h a ha).1, (h b hb).1] at e; exact hf.1.2.2 a ha b hb i j (rf a ha i hi) (rf b hb j hj) e
  · rw [(h a ha).1]; exact (hf.2.2 r hr).2 a ha i (rf a ha i hi)
/-- the state at the start: zeros, but for the present business's cells, the errors' places, the reference's first block -/
theorem RE_0 {S : St} {ad : Nat → Nat} (t : TR S ad) (r5 : gR S (ad 0) 5 = ad 40) (r6 : gR S (ad 0) 6 = ad 80) (r7 : gR S (ad 0) 7 = ad 22) (r8 : gR S (ad 0) 8 = ad 30) (zI : ∀ p i, (pth p).isSome = true → gI S (ad p) i = if p = 52 ∧ i < 900 then -1 else if (p = 0 ∧ i = 10) ∨ (p = 1 ∧ i = 12) then -1 else 0) (zJ : ∀ p i, (pth p).isSome = true → gJ S (ad p) i = if p = 3 then cbv (fun _ => 0) 0 i else 0) : REL S ad := by
  have z : ∀ p i, (pth p).isSome = true → ¬ (p = 52 ∧ i < 900) → ¬ ((p = 0 ∧ i = 10) ∨ (p = 1 ∧ i = 12)) → gI S (ad p) i = 0 := fun p i h1 h2 h3 => by rw [zI p i h1, if_neg h2, if_neg h3]
  have w : ∀ p i, (pth p).isSome = true → p ≠ 3 → gJ S (ad p) i = 0 := fun p i h1 h2 => by rw [zJ p i h1, if_neg h2]
  obtain ⟨v, hv⟩ : ∃ v, v = gJ S (ad 3) := ⟨_, rfl⟩
  have vu : ∀ i, i < 5054 → v i = u00 i := fun i hi => by
    rw [hv, zJ 3 i (by decide), if_pos rfl]
    unfold cbv
    rw [if_pos (by omega), show i - 5054 * 0 = i by omega]
  have v0 : ∀ i, (i < 250 ∨ (1150 ≤ i ∧ i < 5054)) → v i = 0 := fun i hi => (vu i (by omega)).trans (u00_0 (by omega))
  refine ⟨40, 80, 22, 30, v, 0, 0, 0, 0, ⟨⟨t, trivial, v0 1 (by omega), v0 2 (by omega), v0 3 (by omega), v0 0 (by omega), by omega, by omega, by omega, by omega⟩, Or.inl rfl, r5, WF_v vu (by omega) (by omega) (by omega) (by omega) WF_00, ⟨z 41 4 (by decide) (by omega) (by omega), ?_, ?_, ?_, ?_, ?_, ?_, ?_, fun p h => absurd h (by omega)⟩, fun c hc => ?_, ⟨z 43 4 (by decide) (by omega) (by omega), fun o h => absurd h (by omega)⟩, ⟨z 44 8 (by decide) (by omega) (by omega), fun f h => absurd h (by omega)⟩, fun f h => absurd h (by omega), fun f h => absurd h (by omega), ⟨z 46 6 (by decide) (by omega) (by omega), fun k hk => ?_, fun k hk => ?_, fun f h => absurd h (by omega), fun f _ _ => w 76 f (by decide) (by omega), fun k f h => absurd h (by omega), fun k f q h => absurd h (by omega)⟩⟩, Or.inl ⟨rfl, rfl⟩, Or.inl ⟨rfl, rfl⟩, r6, r7, r8, ⟨⟨?_, Or.inl (z 4 0 (by decide) (by omega) (by omega))⟩, ⟨?_, Or.inl (z 4 1 (by decide) (by omega) (by omega))⟩⟩, ⟨0, by omega, z 12 1 (by decide) (by omega) (by omega), z 1 9 (by decide) (by omega) (by omega), fun i h => absurd h (by omega)⟩, ⟨?_, ?_⟩, ⟨0, by omega, z 14 1 (by decide) (by omega) (by omega), z 1 7 (by decide) (by omega) (by omega), fun i h => absurd h (by omega)⟩, ⟨0, 0, by omega, by omega, z 22 7 (by decide) (by omega) (by omega), z 22 8 (by decide) (by omega) (by omega), z 1 19 (by decide) (by omega) (by omega), z 1 20 (by decide) (by omega) (by omega), fun e h => absurd h (by omega)⟩, hv.symm, fun f h => absurd h (by omega), 0, by omega, v0 11 (by omega)⟩
  · rw [z 41 5 (by decide) (by omega) (by omega)]; exact v0 4 (by omega)
  · rw [w 41 6 (by decide) (by omega)]; exact v0 5 (by omega)
  · rw [z 41 7 (by decide) (by omega) (by omega)]; exact v0 6 (by omega)
  · rw [z 41 8 (by decide) (by omega) (by omega)]; exact v0 7 (by omega)
  · rw [w 41 9 (by decide) (by omega)]; exact v0 8 (by omega)
  · rw [z 41 10 (by decide) (by omega) (by omega)]; exact v0 9 (by omega)
  · rw [z 41 11 (by decide) (by omega) (by omega)]; exact v0 10 (by omega)
  · rw [vu _ (by omega), u00_1 (by omega), zI 52 c (by decide), if_pos ⟨rfl, hc⟩]; rfl
  · rw [v0 _ (by omega)]; exact (w 75 k (by decide) (by omega)).symm
  · rw [v0 _ (by omega)]; exact (w 78 k (by decide) (by omega)).symm
  · rw [z 21 0 (by decide) (by omega) (by omega), z 4 0 (by decide) (by omega) (by omega)]
  · rw [z 21 1 (by decide) (by omega) (by omega), z 4 1 (by decide) (by omega) (by omega)]
  · rw [z 0 9 (by decide) (by omega) (by omega), z 1 11 (by decide) (by omega) (by omega)]
  · rw [zI 0 10 (by decide), zI 1 12 (by decide)]; rfl
