/-! constructors that fill: lists of cells, permuted; a call in the midst of a constructor; zeros -/
theorem P_in {D : va_G} {cl : List vw_C} {ws : va_W} {H : Heap} (hP : va_P D cl ws H) {q : Nat × va_E} (hq : q ∈ ws) : va_at D cl q H := by
  obtain ⟨i, hi⟩ := List.getElem?_of_mem hq
  exact hP i q hi
theorem P_of {D : va_G} {cl : List vw_C} {ws : va_W} {H : Heap} (h : ∀ q ∈ ws, va_at D cl q H) : va_P D cl ws H := fun _ q hq => h q (List.mem_of_getElem? hq)
theorem P_mem {D : va_G} {cl : List vw_C} {ws ws' : va_W} {H : Heap} (h : ∀ q ∈ ws', q ∈ ws) (hP : va_P D cl ws H) : va_P D cl ws' H := P_of (fun q hq => P_in hP (h q hq))
theorem D_of {A : Nat → Prop} {ws : va_W} (h1 : (ws.map (fun q => q.1)).Nodup) (h2 : ∀ q ∈ ws, A q.1) : va_D A ws := by
  refine ⟨fun i j p q hi hj e => ?_, fun k q hq => h2 q (List.mem_of_getElem? hq)⟩
  have hi' := (List.getElem?_eq_some_iff.mp hi).1
  have hj' := (List.getElem?_eq_some_iff.mp hj).1
  refine nd_inj h1 (by rw [List.length_map]; exact hi') (by rw [List.length_map]; exact hj') ?_
  rw [List.getElem?_map, hi, List.getElem?_map, hj]
  exact e
theorem D_in {A : Nat → Prop} {ws : va_W} (h : va_D A ws) {q : Nat × va_E} (hq : q ∈ ws) : A q.1 := by
  obtain ⟨i, hi⟩ := List.getElem?_of_mem hq
  exact h.2 i q hi
theorem D_perm {A : Nat → Prop} {ws ws' : va_W} (hp : ws'.Perm ws) (h : va_D A ws) : va_D A ws' := D_of ((hp.map _).nodup_iff.mpr (D_nodup h)) (fun q hq => D_in h (hp.mem_iff.mp hq))
theorem P_perm {D : va_G} {cl : List vw_C} {ws ws' : va_W} {H : Heap} (hp : ws'.Perm ws) (h : va_P D cl ws H) : va_P D cl ws' H := P_mem (fun q hq => hp.mem_iff.mp hq) h
theorem arrV_cg {cA : ClassId} {N : Nat} {f g : Nat → Value} (h : ∀ j, j < N → f j = g j) : arrV cA N f = arrV cA N g := by
  unfold arrV
  rw [show (fun j : Fin N => f j.val) = fun j : Fin N => g j.val from funext fun j => h j.val j.isLt]
/-- the contents of an array of references, within its length -/
theorem P_refs {D : va_G} {cl : List vw_C} {x : Nat × va_E} {ws : va_W} {H : Heap} {a n : Nat} {cA : ClassId} {f g : Nat → Option Nat} (h : ∀ j, j < n → f j = g j) (hP : va_P D cl (x :: (a, .inl (cA, n, .inr (.inr (.inr (.inr f))))) :: ws) H) : va_P D cl (x :: (a, .inl (cA, n, .inr (.inr (.inr (.inr g))))) :: ws) H := by
  refine P_of (fun q hq => ?_)
  rcases List.mem_cons.mp hq with e | hq
  · subst e; exact P_in hP List.mem_cons_self
  · rcases List.mem_cons.mp hq with e | hq
    · subst e
      have h1 : va_at D cl (a, .inl (cA, n, .inr (.inr (.inr (.inr f))))) H := P_in hP (List.mem_cons_of_mem _ List.mem_cons_self)
      have h1 : H[a]? = some (arrV cA n (fun j => va_rf (f j))) := h1
      show H[a]? = some (arrV cA n (fun j => va_rf (g j)))
      rw [h1, arrV_cg (fun j hj => by rw [h j hj])]
    · exact P_in hP (List.mem_cons_of_mem _ (List.mem_cons_of_mem _ hq))
theorem D_refs {A : Nat → Prop} {x : Nat × va_E} {ws : va_W} {a : Nat} {e e' : va_E} (hD : va_D A (x :: (a, e) :: ws)) : va_D A (x :: (a, e') :: ws) := D_of (ws := x :: (a, e') :: ws) (by have h := D_nodup hD; exact h) (fun q hq => by
  rcases List.mem_cons.mp hq with z | hq
  · subst z; exact D_in hD List.mem_cons_self
  · rcases List.mem_cons.mp hq with z | hq
    · subst z; exact D_in hD (q := (a, e)) (List.mem_cons_of_mem _ List.mem_cons_self)
    · exact D_in hD (List.mem_cons_of_mem _ (List.mem_cons_of_mem _ hq)))
section
variable {p : Program} {l : Launch} {e : Env} {R : Room} {s : State} {m : MethodId} {args : Array Value} {below : List Frame} {meth : Method} {c : Code} {H : Heap} {locs : List Loc} {cells slots : Nat} {Q : State → Prop} {A : Nat → Prop} {G : va_G} {cy : Nat → ClassId} {cc : ByteArray} {nL : Nat} {own : String} {ls : Array Slot} {st0 rest : List Value} {pc idx : Nat} {y : MethodName} {cc' : ByteArray} {nL' ci n fr' lo' : Nat} {X : va_W} {L : List Nat} {K : Nat → Nat} {S So : St} {As : List Value} {b : Nat} {Tn : u_T} {Nn : Nat} {ta : List (Nat × Nat)} {ar : (Nat → ClassId) → List Value}
theorem w_call (hx : p.tables.exec = Jvm.exec) (hb : c.code = cc) (hml : c.maxLocals = nL) (hown : s.vm.findClass own = some m.cls) (hts : ∀ w ∈ TT, w.before args s = true) (hK : va_K G vwCl (tys cy) s) (hA : ∀ q, s.heap.size ≤ q → A q) (hE : EX cy A s) (mv : MV own idx y cc' nL' none n) (ct : Ct y cc' nL' none fr' lo' ar ta S (some So) oV sV) (har : ar cy = .ref b :: As) (hta : ∀ q ∈ ta, q.1 ∈ L ∧ K q.1 = q.2) (hc : vwCl[ci]? = some (y.cls, Tn, Nn)) (hci : ci < 12) (tb : b ∈ L ∧ K b = ci) (hw : WT L K S) (hn : As.length = n) (hls : ls.size = nL) (hst : st0 = As.reverse ++ .ref b :: rest) (hcat : (rest.map fun v => v.category).sum ≤ 8) (hfr : fr' + 1 ≤ R.frames) (hlo : 8 + (nL' + 11) + lo' ≤ R.locals) (hce : cells ≤ R.cells) (hsl : slots ≤ R.slots) (d : decode cc pc = .ok (.invokevirtual idx, 3)) (hP : va_P G vwCl (X ++ plw cy L K S) H) (hD : va_D A (X ++ plw cy L K S)) (hS : va_S A s.heap H locs)
    (kk : ∀ (H1 : Heap) (locs1 : List Loc), va_P G vwCl (X ++ plw cy L K So) H1 → va_D A (X ++ plw cy L K So) → va_S A s.heap H1 locs1 → W p l e R s m args below meth c H1 locs1 cells slots Q (F0 m (pc + 3) ls rest)) : W p l e R s m args below meth c H locs cells slots Q (F0 m pc ls st0) := by
  have hM := ct l G cy L K H.size So rfl hta
  rw [har] at hM
  obtain ⟨m1, m2, m3, m4, m5, m6⟩ := mv
  have hL : ∀ q ∈ L, A q := fun q hq => by
    obtain ⟨k, hk⟩ := pl_get (cy := cy) (K := K) (S := S) hq
    exact (D_right hD).2 k _ hk
  have hA1 : ∀ q, va_A (plw cy L K S) H.size q → A q := by
    intro q hq
    rcases hq with hq | hq
    · exact hL q (pl_A hq)
    · exact hA q (Nat.le_trans hS.1 hq)
  obtain ⟨q0, hq⟩ := pl_get (cy := cy) (K := K) (S := S) tb.1
  rw [ent_obj (cy := cy) (S := S) tb.2 hci] at hq
  have hrun := va_runV (p := p) (e := e) (R := R) (below := below) (meth := meth) (locs := locs) (cells := cells) (slots := slots) (g := F0 m pc ls st0) (As := As) (rest := rest) (C := y.cls) (bytes := cc') (maxL := nL') (ret := none) (Ts := TT) (own := own) (n := n) ⟨hx, hb, hml, hown, hts⟩ hM ⟨callB_of (Ts := TT) (ws' := TT) n hts (gd_T m5) rfl rfl rfl (hts _ m4) (hts _ m1) m6 ⟨hfr, hlo⟩, hts _ m2, hts _ m3⟩ ⟨KP_blind, va_recv hK (P_right hP) hc hq, fun U hU hW => ⟨rfl, by rw [hU], by rw [hU]; exact P_right hP, va_K.moved hW.alike hK, (D_right hD).weaken (fun _ _ _ _ => trivial), hw, EX_call hE hS hU hW hA1⟩⟩ rfl hn hls hst (lv_room hcat) d ⟨hce, hsl⟩
  intro T9 hT X9
  obtain ⟨v, st₀, t, T', L', h0, X', hL', e1, e2, ⟨⟨hv, hP1, hD1, hw1⟩, hz, hk⟩, stt⟩ := hrun T9 hT X9
  cases hv
  rw [h0] at hz hk
  obtain ⟨hP3, hD3⟩ := va_joinA hP hD (H1 := T'.heap) (fun z h1 h2 => by rw [e1]; exact hk z h1 h2) hA1 (by rw [e1]; exact hP1) hD1
  have hS1 : va_S A s.heap T'.heap (locs ++ L') := ⟨Nat.le_trans hS.1 (by rw [e1]; exact hz), fun z h1 h2 => by rw [e1, hk z (Nat.lt_of_lt_of_le h1 hS.1) (fun w => h2 (hA1 z w))]; exact hS.2.1 z h1 h2, fun z hz9 => by
    rcases List.mem_append.mp hz9 with h | h
    · exact hS.2.2 z h
    · exact hA1 _ (hL' z h)⟩
  obtain ⟨t2, a2, b2⟩ := kk T'.heap (locs ++ L') hP3 hD3 hS1 T' rfl X'
  exact ⟨t2, stt t2 a2, b2⟩
end
/-! forests: roots in another order, one cell over some of the roots -/
theorem FO_perm {L : List Nat} {K : Nat → Nat} {S : St} {rs rs' : List Nat} (hp : rs'.Perm rs) (h : FO L K S rs) : FO L K S rs' := ⟨h.1, hp.nodup_iff.mpr h.2.1, fun r hr => h.2.2 r (hp.mem_iff.mp hr)⟩
theorem FO_one {L : List Nat} {K : Nat → Nat} {S S0 : St} {rs1 rs2 : List Nat} {a0 kd : Nat} (hf : FO L K S (rs1 ++ rs2)) (hn : a0 ∉ L) (hr : ∀ i, ((lay kd)[i]? = some 2 ∨ (kd = 16 ∧ i < gN S0 a0)) → gR S0 a0 i ∈ rs1 ∧ K (gR S0 a0 i) = rt kd i ∧ (12 ≤ rt kd i → gN S (gR S0 a0 i) = lenF kd i)) (hinj : ∀ i j, ((lay kd)[i]? = some 2 ∨ (kd = 16 ∧ i < gN S0 a0)) → ((lay kd)[j]? = some 2 ∨ (kd = 16 ∧ j < gN S0 a0)) → gR S0 a0 i = gR S0 a0 j → i = j) : FO ([a0] ++ L) (mK L (fun _ => kd) K) (mS L S0 S) ([a0] ++ rs2) := by
  have h : ∀ a ∈ [a0], a ∉ L := fun a ha => by rw [List.mem_singleton.mp ha]; exact hn
  have hm : a0 ∈ [a0] := List.mem_singleton.mpr rfl
  obtain ⟨⟨w2, n2, i2⟩, d2, q2⟩ := hf
  have nd := List.nodup_append.mp d2
  have g1 : ∀ i, gR (mS L S0 S) a0 i = gR S0 a0 i := (mS_1 (S1 := S0) (S2 := S) h hm).2.2.1
  have g2 : ∀ a ∈ L, ∀ i, gR (mS L S0 S) a i = gR S a i := fun a ha => (mS_2 (S1 := S0) (S2 := S) ha).2.2.1
  have k1 : mK L (fun _ => kd) K a0 = kd := mK_1 h hm
  have r1 : ∀ i, RF (mK L (fun _ => kd) K) (mS L S0 S) a0 i → ((lay kd)[i]? = some 2 ∨ (kd = 16 ∧ i < gN S0 a0)) := by
    intro i hi
    rcases hi with hi | hi
    · rw [k1] at hi; exact Or.inl hi
    · rw [k1, (mS_1 (S1 := S0) (S2 := S) h hm).2.2.2] at hi; exact Or.inr hi
  have wt2 : ∀ a ∈ L, ∀ i, RF K S a i → gR S a i ∈ L ∧ K (gR S a i) = rt (K a) i := fun a ha i hi => w2 a ha i hi
  have mem1 : ∀ r ∈ rs1, r ∈ rs1 ++ rs2 := fun r hr => List.mem_append_left _ hr
  refine ⟨⟨fun a ha i hi => ?_, fun a ha i hi h12 => ?_, fun a ha b hb i j hi hj e => ?_⟩, ?_, fun r hr9 => ?_⟩
  · rcases List.mem_append.mp ha with ha1 | ha1
    · rw [List.mem_singleton.mp ha1] at hi ⊢
      obtain ⟨a1, a2, -⟩ := hr i (r1 i hi)
      have a3 := (q2 _ (mem1 _ a1)).1
      rw [g1, k1, mK_2 a3]
      exact ⟨List.mem_append_right _ a3, a2⟩
    · have hi := (RF_2 ha1).mp hi
      have := wt2 a ha1 i hi
      rw [g2 a ha1, mK_2 ha1, mK_2 this.1]
      exact ⟨List.mem_append_right _ this.1, this.2⟩
  · rcases List.mem_append.mp ha with ha1 | ha1
    · rw [List.mem_singleton.mp ha1] at hi h12 ⊢
      rw [k1] at h12 ⊢
      obtain ⟨a1, a2, a3⟩ := hr i (r1 i hi)
      rw [g1, (mS_2 (S1 := S0) (S2 := S) (q2 _ (mem1 _ a1)).1).2.2.2]
      exact a3 h12
    · have hi := (RF_2 ha1).mp hi
      rw [mK_2 ha1] at h12 ⊢
      rw [g2 a ha1, (mS_2 (S1 := S0) (S2 := S) (wt2 a ha1 i hi).1).2.2.2]
      exact n2 a ha1 i hi h12
  · rcases List.mem_append.mp ha with ha1 | ha1
    · rcases List.mem_append.mp hb with hb1 | hb1
      · rw [List.mem_singleton.mp ha1] at hi e ⊢
        rw [List.mem_singleton.mp hb1] at hj e ⊢
        rw [g1, g1] at e
        exact ⟨rfl, hinj i j (r1 i hi) (r1 j hj) e⟩
      · rw [List.mem_singleton.mp ha1] at hi e
        rw [g1, g2 b hb1] at e
        exact absurd e.symm ((q2 _ (mem1 _ (hr i (r1 i hi)).1)).2 b hb1 j ((RF_2 hb1).mp hj))
    · rcases List.mem_append.mp hb with hb1 | hb1
      · rw [List.mem_singleton.mp hb1] at hj e
        rw [g1, g2 a ha1] at e
        exact absurd e ((q2 _ (mem1 _ (hr j (r1 j hj)).1)).2 a ha1 i ((RF_2 ha1).mp hi))
      · rw [g2 a ha1, g2 b hb1] at e
        exact i2 a ha1 b hb1 i j ((RF_2 ha1).mp hi) ((RF_2 hb1).mp hj) e
  · rw [List.nodup_append]
    refine ⟨List.nodup_cons.mpr ⟨List.not_mem_nil, List.nodup_nil⟩, nd.2.1, fun a ha b hb z => ?_⟩
    subst z
    exact h a ha (q2 a (List.mem_append_right _ hb)).1
  · rcases List.mem_append.mp hr9 with hr1 | hr1
    · rw [List.mem_singleton.mp hr1]
      refine ⟨List.mem_append_left _ hm, fun a ha i hi => ?_⟩
      rcases List.mem_append.mp ha with ha1 | ha1
      · rw [List.mem_singleton.mp ha1] at hi ⊢
        rw [g1]
        intro e
        exact hn (by rw [← e]; exact (q2 _ (mem1 _ (hr i (r1 i hi)).1)).1)
      · rw [g2 a ha1]
        intro e
        exact hn (by rw [← e]; exact (wt2 a ha1 i ((RF_2 ha1).mp hi)).1)
    · have hrL := q2 r (List.mem_append_right _ hr1)
      refine ⟨List.mem_append_right _ hrL.1, fun a ha i hi => ?_⟩
      rcases List.mem_append.mp ha with ha1 | ha1
      · rw [List.mem_singleton.mp ha1] at hi ⊢
        rw [g1]
        intro e
        have := (hr i (r1 i hi)).1
        exact nd.2.2 _ this _ hr1 e
      · rw [g2 a ha1]; exact hrL.2 a ha1 i ((RF_2 ha1).mp hi)
/-! zeros -/
theorem uI_z {S : St} {a i : Nat} (h : gI S a i = 0) : uI S a i 0 = S := by
  have e : up2 S.1 a i 0 = S.1 := by
    funext b j
    unfold up2
    by_cases h1 : b = a
    · by_cases h2 : j = i
      · subst h1; subst h2; rw [if_pos rfl, if_pos rfl]; exact h.symm
      · rw [if_pos h1, if_neg h2]
    · rw [if_neg h1]
  unfold uI
  rw [e]
theorem uJ_z {S : St} {a i : Nat} (h : gJ S a i = 0) : uJ S a i 0 = S := by
  have e : up2 S.2.1 a i 0 = S.2.1 := by
    funext b j
    unfold up2
    by_cases h1 : b = a
    · by_cases h2 : j = i
      · subst h1; subst h2; rw [if_pos rfl, if_pos rfl]; exact h.symm
      · rw [if_pos h1, if_neg h2]
    · rw [if_neg h1]
  unfold uJ
  rw [e]
theorem flI_z {S : St} {a n : Nat} {v : Int32} (h : ∀ j, j < n → gI S a j = v) : flI S a v n = S := by
  have e : (fun b j => if b = a ∧ j < n then v else S.1 b j) = S.1 := by
    funext b j
    by_cases h1 : b = a ∧ j < n
    · rw [if_pos h1, h1.1]; exact (h j h1.2).symm
    · rw [if_neg h1]
  unfold flI
  rw [e]
theorem flJ_z {S : St} {a n : Nat} {v : Int64} (h : ∀ j, j < n → gJ S a j = v) : flJ S a v n = S := by
  have e : (fun b j => if b = a ∧ j < n then v else S.2.1 b j) = S.2.1 := by
    funext b j
    by_cases h1 : b = a ∧ j < n
    · rw [if_pos h1, h1.1]; exact (h j h1.2).symm
    · rw [if_neg h1]
  unfold flJ
  rw [e]
/-- a new business is cleared: its cells are nobody's -/
theorem clr_SH {L : List Nat} {K : Nat → Nat} {S : St} {g : Nat} (sh : SH L K S) (hg : g ∈ L) (kg : K g = 1) (hz : ∀ a i, gI S a i = 0 ∧ gJ S a i = 0) : f_X1_clear S g = some (flI S (gR S (gR S g 1) 0) (-1) 900) ∧ gR S (gR S g 1) 0 ∈ L ∧ gR S g 1 ∈ L := by
  obtain ⟨w, nn, ij⟩ := sh
  have rf1 : ∀ i, i < 7 → RF K S g i := fun i hi => Or.inl (by rw [kg]; match i, hi with | 0, _ => rfl | 1, _ => rfl | 2, _ => rfl | 3, _ => rfl | 4, _ => rfl | 5, _ => rfl | 6, _ => rfl)
  have w1 := w g hg 1 (rf1 1 (by decide))
  have w4 := w g hg 4 (rf1 4 (by decide))
  have w5 := w g hg 5 (rf1 5 (by decide))
  rw [kg] at w1 w4 w5
  have k1 : K (gR S g 1) = 3 := w1.2
  have k4 : K (gR S g 4) = 9 := w4.2
  have k5 : K (gR S g 5) = 0 := w5.2
  have rfA : RF K S (gR S g 1) 0 := Or.inl (by rw [k1]; rfl)
  have rfT : RF K S (gR S g 4) 0 := Or.inl (by rw [k4]; rfl)
  have rfB : ∀ i, i < 6 → RF K S (gR S g 5) i := fun i hi => Or.inl (by rw [k5]; match i, hi with | 0, _ => rfl | 1, _ => rfl | 2, _ => rfl | 3, _ => rfl | 4, _ => rfl | 5, _ => rfl)
  have n12 : gN S (gR S (gR S g 1) 0) = 900 := by rw [nn _ w1.1 0 rfA (by rw [k1]; decide), k1]; rfl
  have n27 : gN S (gR S (gR S g 4) 0) = 8 := by rw [nn _ w4.1 0 rfT (by rw [k4]; decide), k4]; rfl
  have n35 : gN S (gR S (gR S g 5) 2) = 64 := by rw [nn _ w5.1 2 (rfB 2 (by decide)) (by rw [k5]; decide), k5]; rfl
  have n36 : gN S (gR S (gR S g 5) 3) = 8 := by rw [nn _ w5.1 3 (rfB 3 (by decide)) (by rw [k5]; decide), k5]; rfl
  have n37 : gN S (gR S (gR S g 5) 4) = 8 := by rw [nn _ w5.1 4 (rfB 4 (by decide)) (by rw [k5]; decide), k5]; rfl
  have n38 : gN S (gR S (gR S g 5) 5) = 3 := by rw [nn _ w5.1 5 (rfB 5 (by decide)) (by rw [k5]; decide), k5]; rfl
  have wo := w _ w1.1 0 rfA
  have ne : ∀ i, i < 7 → i ≠ 0 → gR S g i ≠ gR S (gR S g 1) 0 := fun i hi h0 z => h0 (ij g hg _ w1.1 i 0 (rf1 i hi) rfA z).2
  have neT : gR S (gR S g 4) 0 ≠ gR S (gR S g 1) 0 := fun z => absurd (ij g hg g hg 4 1 (rf1 4 (by decide)) (rf1 1 (by decide)) (ij _ w4.1 _ w1.1 0 0 rfT rfA z).1).2 (by decide)
  obtain ⟨oo, ho⟩ : ∃ oo, oo = gR S (gR S g 1) 0 := ⟨_, rfl⟩
  rw [← ho] at n12 ne neT wo ⊢
  refine ⟨?_, wo.1, w1.1⟩
  obtain ⟨Z, hZ⟩ : ∃ Z, Z = flI S oo (-1) 900 := ⟨_, rfl⟩
  have zr : ∀ a i, gR Z a i = gR S a i := fun a i => by rw [hZ]; rfl
  have zn : ∀ a, gN Z a = gN S a := fun a => by rw [hZ]; rfl
  have zi : ∀ a i, a ≠ oo → gI Z a i = 0 := fun a i h => by rw [hZ, gI_flI, if_neg (fun z => h z.1)]; exact (hz a i).1
  have zj : ∀ a i, gJ Z a i = 0 := fun a i => by rw [hZ]; exact (hz a i).2
  have c1 : f_X8_clear S (gR S g 0) = some S := by
    simp only [f_X8_clear, lt_n, uI_z (hz _ _).1, uJ_z (hz _ _).2]
  have c2 : f_X3_clear S (gR S g 1) = some Z := by
    rw [f_X3_clear, lt_n, ← ho, fill_I S oo (-1) n12 (by decide), cl_n, hZ]
  have c5 : f_X10_clear Z (gR Z g 4) = some Z := by
    rw [f_X10_clear, lt_n, zr, zr, fill_I Z _ 0 (N := 8) (by rw [zn]; exact n27) (by decide), cl_n, flI_z (fun j _ => zi _ _ neT)]
  have c6 : f_X0_clear Z (gR Z g 5) = some Z := by
    rw [f_X0_clear, lt_n, zr, zr, fill_J Z _ 0 (N := 64) (by rw [zn]; exact n35) (by decide), cl_n, flJ_z (fun j _ => zj _ _), lt_n, zr, fill_J Z _ 0 (N := 8) (by rw [zn]; exact n36) (by decide), cl_n, flJ_z (fun j _ => zj _ _), lt_n, zr, fill_J Z _ 0 (N := 8) (by rw [zn]; exact n37) (by decide), cl_n, flJ_z (fun j _ => zj _ _), lt_n, zr, fill_J Z _ 0 (N := 3) (by rw [zn]; exact n38) (by decide), cl_n, flJ_z (fun j _ => zj _ _), lt_n, uI_z (zi _ _ (ne 5 (by decide) (by decide)))]
  rw [f_X1_clear, lt_n, c1, cl_n, lt_n, c2, cl_n, lt_n, lt_n, zr, uI_z (zi _ _ (ne 2 (by decide) (by decide))), lt_n, lt_n, zr, uI_z (zi _ _ (ne 3 (by decide) (by decide))), lt_n, c5, cl_n, lt_n, c6, cl_n, hZ]
theorem mS_flI {L2 : List Nat} {S S2 : St} {oo n : Nat} {w : Int32} (h : oo ∉ L2) : mS L2 (flI S oo w n) S2 = flI (mS L2 S S2) oo w n := by
  unfold mS flI
  congr 1
  funext a i
  by_cases h1 : a ∈ L2
  · have : a ≠ oo := fun z => h (z ▸ h1)
    simp [h1, this]
  · simp [h1]
/-- where the present business's cells lie -/
def OG (L : List Nat) (S : St) (g oo : Nat) : Prop := g ∈ L ∧ gR S g 1 ∈ L ∧ oo ∈ L ∧ gR S (gR S g 1) 0 = oo
theorem OG_app {L L2 : List Nat} {S S2 : St} {g oo : Nat} (h : OG L S g oo) (hd : ∀ a ∈ L, a ∉ L2) : OG (L ++ L2) (mS L2 S S2) g oo := by
  obtain ⟨h1, h2, h3, h4⟩ := h
  have e1 := (mS_1 (S1 := S) (S2 := S2) hd h1).2.2.1 1
  have e2 := (mS_1 (S1 := S) (S2 := S2) hd h2).2.2.1 0
  exact ⟨List.mem_append_left _ h1, by rw [e1]; exact List.mem_append_left _ h2, List.mem_append_left _ h3, by rw [e1, e2]; exact h4⟩
theorem OG_top {L : List Nat} {S S0 : St} {g oo a0 : Nat} (h : OG L S g oo) : OG ([a0] ++ L) (mS L S0 S) g oo := by
  obtain ⟨h1, h2, h3, h4⟩ := h
  have e1 := (mS_2 (S1 := S0) (S2 := S) h1).2.2.1 1
  have e2 := (mS_2 (S1 := S0) (S2 := S) h2).2.2.1 0
  exact ⟨List.mem_append_right _ h1, by rw [e1]; exact List.mem_append_right _ h2, List.mem_append_right _ h3, by rw [e1, e2]; exact h4⟩
