/-! contracts over the pool; calls, returns, a method's entry -/
def KQ {α : Type} (vof : α → Option Value) (sof : α → St) (G : va_G) (cy : Nat → ClassId) (L : List Nat) (K : Nat → Nat) (A : Nat → Prop) (out : α) : Array Value → State → Outcome → State → Prop := fun _ st oc t => (oc = .returned (vof out) ∧ va_P G vwCl (plw cy L K (sof out)) t.heap ∧ va_D A (plw cy L K (sof out)) ∧ WT L K (sof out)) ∧ va_F A st t
def KP (args : List Value) (S : St) (G : va_G) (cy : Nat → ClassId) (L : List Nat) (K : Nat → Nat) (sz : Nat) : Array Value → State → Prop := va_Pc args (fun U => U.heap.size = sz ∧ va_P G vwCl (plw cy L K S) U.heap ∧ va_K G vwCl (tys cy) U ∧ va_D (fun _ => True) (plw cy L K S) ∧ WT L K S ∧ EX cy (va_A (plw cy L K S) sz) U)
abbrev rmo (fr lo : Nat) : Room := { frames := fr, cells := 0, slots := 0, locals := lo }
def cyC (C : CT) : Nat → ClassId := C.2.2.2.2.2.2.2.2.2.2.2.2.1
/-- a String constant's address -/
def cS (C : CT) (n : Nat) : Nat := cyC C (100 + 2 * n)
def Ct {α : Type} (y : MethodName) (cc : ByteArray) (nL : Nat) (ret : Option FieldType) (fr lo : Nat) (args : (Nat → ClassId) → List Value) (ta : List (Nat × Nat)) (S : St) (F : Option α) (vof : α → Option Value) (sof : α → St) : Prop :=
  ∀ (l : Launch) (G : va_G) (cy : Nat → ClassId) (L : List Nat) (K : Nat → Nat) (sz : Nat) (out : α), F = some out → (∀ q ∈ ta, q.1 ∈ L ∧ K q.1 = q.2) → Met l y (Cond.code y cc nL ret :: TT) (rmo fr lo) (KP (args cy) S G cy L K sz) (KQ vof sof G cy L K (va_A (plw cy L K S) sz) out) 0 0 (va_A (plw cy L K S) sz)
def QJ {α : Type} (C : CT) (vof : α → Option Value) (sof : α → St) : α → State → Prop := match C with
  | (_, _, _, _, s, _, args, below, _, _, A, G, cy, L, K, ce, sl) => fun out => MQ below (KQ vof sof G cy L K A out) args s ce sl A
abbrev oI : Int32 → Option Value := fun r => some (.int r)
abbrev oL : Int64 → Option Value := fun r => some (.long r)
abbrev oV : St → Option Value := fun _ => none
abbrev oIS : Int32 × St → Option Value := fun r => some (.int r.1)
abbrev oLS : Int64 × St → Option Value := fun r => some (.long r.1)
abbrev sS : Int32 × St → St := fun r => r.2
abbrev sL : Int64 × St → St := fun r => r.2
/-- the locals at a method's entry -/
def vsa : List Value → List (Option Value)
  | [] => []
  | v :: r => if v.category = 2 then some v :: none :: vsa r else some v :: vsa r
theorem vsa_at : ∀ (args : List Value) (i j : Nat) (v : Value), (vsa args)[j]? = some (some v) → (i + j, v) ∈ lv_args i args := by
  intro args
  induction args with
  | nil => intro i j v h; simp [vsa] at h
  | cons w r ih =>
    intro i j v h
    simp only [vsa] at h
    simp only [lv_args]
    by_cases hc : w.category = 2
    · rw [if_pos hc] at h ⊢
      match j, h with
      | 0, h => simp at h; subst h; exact List.mem_cons_self
      | 1, h => simp at h
      | j + 2, h =>
        have h2 : (vsa r)[j]? = some (some v) := by simpa using h
        have := ih (i + 2) j v h2
        rw [show i + 2 + j = i + (j + 2) by omega] at this
        exact List.mem_cons_of_mem _ this
    · rw [if_neg hc] at h ⊢
      match j, h with
      | 0, h => simp at h; subst h; exact List.mem_cons_self
      | j + 1, h =>
        have h2 : (vsa r)[j]? = some (some v) := by simpa using h
        have := ih (i + 1) j v h2
        rw [show i + 1 + j = i + (j + 1) by omega] at this
        exact List.mem_cons_of_mem _ this
theorem vsa_pad {args : List Value} {k j : Nat} {v : Value} (h : (vsa args ++ List.replicate k none)[j]? = some (some v)) : (vsa args)[j]? = some (some v) := by
  by_cases hj : j < (vsa args).length
  · rw [List.getElem?_append_left hj] at h; exact h
  · rw [List.getElem?_append_right (by omega)] at h
    have := List.eq_of_mem_replicate (List.mem_of_getElem? h)
    cases this
theorem pl_A {cy : Nat → ClassId} {L : List Nat} {K : Nat → Nat} {S : St} {q : Nat} (h : ∃ (k : Nat) (e : va_E), (plw cy L K S)[k]? = some (q, e)) : q ∈ L := by
  obtain ⟨k, e, h⟩ := h
  simp only [plw, va_pl, List.getElem?_map, Option.map_eq_some_iff] at h
  obtain ⟨a, h1, h2⟩ := h
  cases h2
  exact List.mem_of_getElem? h1
theorem A_pl {cy : Nat → ClassId} {L : List Nat} {K : Nat → Nat} {S : St} {q sz : Nat} (h : q ∈ L) : va_A (plw cy L K S) sz q := by
  obtain ⟨k, hk⟩ := pl_get (cy := cy) (K := K) (S := S) h
  exact Or.inl ⟨k, _, hk⟩
/-- a method, from its body -/
theorem Ct_of {α : Type} {y : MethodName} {cc : ByteArray} {nL : Nat} {ret : Option FieldType} {fr lo : Nat} {args : (Nat → ClassId) → List Value} {ta : List (Nat × Nat)} {S : St} {F : Option α} {vof : α → Option Value} {sof : α → St} (own : String) (hown : y.cls = own) (hy : plainName y.cls = true) (hlen : ∀ cy, (lg_sl (args cy)).length ≤ nL) (n : Nat) {vs : (Nat → ClassId) → List (Option Value)} (hvs : ∀ cy, vsa (args cy) ++ List.replicate n none = vs cy)
    (h : ∀ C : CT, Cx C cc nL own fr lo → cE C → rT C ret → (∀ q ∈ ta, tT C q.1 q.2) → Jd C nL (QJ C vof sof) S 0 (vs (cyC C)) [] F) : Ct y cc nL ret fr lo args ta S F vof sof := by
  intro l G cy L K sz out hF hta
  refine Met.ofW (cc := cc) (maxL := nL) (ret := ret) hy rfl ?_
  intro p e s m args' below meth c s₁ B hml hv
  obtain ⟨rfl, hsz, hP, hK, hD0, hw, hE⟩ := hv
  have hts := atoms_spec (ws := Cond.code y cc nL ret :: TT) B.pre
  have hfc : s.vm.findClass own = some m.cls := by rw [← hown]; exact findClass_of_methodNamed B.named
  subst hsz
  have hD := hD0.self (sz := s.heap.size)
  have h1 := h (p, l, e, rmo fr lo, s, m, (args cy).toArray, below, meth, c, va_A (plw cy L K S) s.heap.size, G, cy, L, K, 0, 0) ⟨B.exec, B.bytes, hml, hfc, fun w hw => hts w (List.mem_cons_of_mem _ hw), hK, fun q hq => Or.inr hq, B.notSynchronized, rfl, rfl, fun q hq => A_pl hq, Nat.zero_le _, Nat.zero_le _⟩ hE B.returns hta
  have hl := lv_entry (args cy) (n := nL) (hlen cy)
  rw [lg_entry_eq]
  refine h1 out hF hw s.heap [] _ hP hD va_S.rf ⟨hl.1, hl.2.1, fun i v hi => ?_⟩
  have hi : (vs cy)[i]? = some (some v) := hi
  rw [← hvs cy] at hi
  have := vsa_at (args cy) 0 i v (vsa_pad hi)
  rw [Nat.zero_add] at this
  exact hl.2.2 (i, v) this
section
variable {α : Type} {C : CT} {cc : ByteArray} {nL : Nat} {own : String} {fr lo : Nat} {Q : α → State → Prop} {S : St} {vs : List (Option Value)} {st : List Value} {pc : Nat} {vof : α → Option Value} {sof : α → St}
theorem s_iret (X : Cx C cc nL own fr lo) (hr : rT C (some .int)) (d : decode cc pc = .ok (.ireturn, 1)) {v : Int32} {o : α} (hv : vof o = some (.int v)) (hs : sof o = S) : Jd C nL (QJ C vof sof) S pc vs [.int v] (some o) := by
  obtain ⟨p, l, e, R, s, m, args, below, meth, c, A, G, cy, L, K, ce, sl⟩ := C
  intro out hF hw H locs ls hP hD hS hl
  cases hF
  exact W.iret X.1 X.2.1 hr (fun t ht hW => ⟨⟨by rw [hv], by rw [ht, hs]; exact hP, by rw [hs]; exact hD, by rw [hs]; exact hw⟩, hS.F ht⟩) hS.2.2 d X.2.2.2.2.2.2.2.1
theorem s_lret (X : Cx C cc nL own fr lo) (hr : rT C (some .long)) (d : decode cc pc = .ok (.lreturn, 1)) {v : Int64} {o : α} (hv : vof o = some (.long v)) (hs : sof o = S) : Jd C nL (QJ C vof sof) S pc vs [.long v] (some o) := by
  obtain ⟨p, l, e, R, s, m, args, below, meth, c, A, G, cy, L, K, ce, sl⟩ := C
  intro out hF hw H locs ls hP hD hS hl
  cases hF
  exact W.lret X.1 X.2.1 hr (fun t ht hW => ⟨⟨by rw [hv], by rw [ht, hs]; exact hP, by rw [hs]; exact hD, by rw [hs]; exact hw⟩, hS.F ht⟩) hS.2.2 d X.2.2.2.2.2.2.2.1
theorem nar_b {v : Int32} (h : v = 0 ∨ v = 1) : narrow .boolean (.int v) = .int v := by rcases h with rfl | rfl <;> rfl
theorem s_zret0 (X : Cx C cc nL own fr lo) (hr : rT C (some .boolean)) (d : decode cc pc = .ok (.ireturn, 1)) {v : Int32} (hz : v = 0 ∨ v = 1) {o : α} (hv : vof o = some (.int v)) (hs : sof o = S) : Jd C nL (QJ C vof sof) S pc vs [.int v] (some o) := by
  obtain ⟨p, l, e, R, s, m, args, below, meth, c, A, G, cy, L, K, ce, sl⟩ := C
  intro out hF hw H locs ls hP hD hS hl
  cases hF
  exact W.zret X.1 X.2.1 hr (nar_b hz) (fun t ht hW => ⟨⟨by rw [hv], by rw [ht, hs]; exact hP, by rw [hs]; exact hD, by rw [hs]; exact hw⟩, hS.F ht⟩) hS.2.2 d X.2.2.2.2.2.2.2.1
theorem s_zret (X : Cx C cc nL own fr lo) (hr : rT C (some .boolean)) (d : decode cc pc = .ok (.ireturn, 1)) {v : Int32} {o : α} (hv : vof o = some (.int v)) (hs : sof o = S) : Jd C nL (QJ C vof sof) S pc vs [.int v] (zc v (some o)) := by
  by_cases hz : v = 0 ∨ v = 1
  · rw [show zc v (some o) = some o from if_pos hz]
    exact s_zret0 X hr d hz hv hs
  · rw [show zc v (some o) = none from if_neg hz]
    exact s_none
theorem s_vret (X : Cx C cc nL own fr lo) (hr : rT C none) (d : decode cc pc = .ok (.return_, 1)) {o : α} (hv : vof o = none) (hs : sof o = S) : Jd C nL (QJ C vof sof) S pc vs [] (some o) := by
  obtain ⟨p, l, e, R, s, m, args, below, meth, c, A, G, cy, L, K, ce, sl⟩ := C
  intro out hF hw H locs ls hP hD hS hl
  cases hF
  exact W.vret X.1 X.2.1 hr (fun t ht hW => ⟨⟨by rw [hv], by rw [ht, hs]; exact hP, by rw [hs]; exact hD, by rw [hs]; exact hw⟩, hS.F ht⟩) hS.2.2 d X.2.2.2.2.2.2.2.1
end
/-! links of methods -/
def MV (own : String) (idx : Nat) (y : MethodName) (cc : ByteArray) (nL : Nat) (ret : Option FieldType) (n : Nat) : Prop := Cond.methodLink own idx y ∈ TT ∧ Cond.instanceMethod y ∈ TT ∧ Cond.selects y.cls y y ∈ TT ∧ Cond.initialized y.cls ∈ TT ∧ Cond.code y cc nL ret ∈ TT ∧ (y.cls ≠ "java/lang/invoke/MethodHandle" ∧ y.cls ≠ "java/lang/invoke/VarHandle" ∧ (parseMethodDescriptor y.desc).map (fun d => d.parameters.length) = some n)
def MS (own : String) (idx : Nat) (y : MethodName) (cc : ByteArray) (nL : Nat) (ret : Option FieldType) (n : Nat) : Prop := Cond.methodLink own idx y ∈ TT ∧ Cond.static y ∈ TT ∧ Cond.initialized y.cls ∈ TT ∧ Cond.code y cc nL ret ∈ TT ∧ (y.cls ≠ "java/lang/invoke/MethodHandle" ∧ y.cls ≠ "java/lang/invoke/VarHandle" ∧ (parseMethodDescriptor y.desc).map (fun d => d.parameters.length) = some n)
def MN (own : String) (idx : Nat) (y : MethodName) (cc : ByteArray) (nL : Nat) (ret : Option FieldType) (n : Nat) : Prop := (∃ host, Cond.methodLinkNest own idx y host ∈ NW) ∧ Cond.static y ∈ TT ∧ Cond.initialized y.cls ∈ TT ∧ Cond.code y cc nL ret ∈ TT ∧ (y.cls ≠ "java/lang/invoke/MethodHandle" ∧ y.cls ≠ "java/lang/invoke/VarHandle" ∧ (parseMethodDescriptor y.desc).map (fun d => d.parameters.length) = some n)
theorem KP_blind {args : List Value} {S : St} {G : va_G} {cy : Nat → ClassId} {L : List Nat} {K : Nat → Nat} {sz : Nat} : FrameBlind (KP args S G cy L K sz) := by
  intro a U g mk q
  obtain ⟨q0, q1, qP, qK, qD, qw, qE⟩ := q
  exact ⟨q0, q1, qP, va_K.moved (u := U) (U := U.calling g mk a) (Vm.Alike.refl U.vm) qK, qD, qw, EX_blind qE⟩
theorem gd_self {cx : Cond} {cy : Cond} (h : cy ∈ TT) : GoodIn (cx :: TT) (cy :: TT) := gd_of (fun w hw => (List.mem_cons.mp hw).elim (fun e => e ▸ h) id)
theorem gd_T {cy : Cond} (h : cy ∈ TT) : GoodIn TT (cy :: TT) := fun w hw => by
  have : w ∈ TT := (List.mem_cons.mp hw).elim (fun e => e ▸ h) id
  exact ⟨this, good_of_word (TT_good this)⟩
/-- what comes back from a call over the pool -/
theorem run_go {p : Program} {l : Launch} {e : Env} {R : Room} {s : State} {m : MethodId} {args : Array Value} {below : List Frame} {meth : Method} {c : Code} {H : Heap} {locs : List Loc} {ce sl : Nat} {Q : State → Prop} {α : Type} {vof : α → Option Value} {sof : α → St} {G : va_G} {cy : Nat → ClassId} {L : List Nat} {K : Nat → Nat} {S : St} {A : Nat → Prop} {out : α} {pc : Nat} {ls : Array Slot} {st0 rest : List Value} {a : Array Value} (hS : va_S A s.heap H locs) (hA : ∀ q, s.heap.size ≤ q → A q) (hL : ∀ q ∈ L, A q)
    (hr : va_Run p l e R s m args below meth c H locs ce sl 0 0 (F0 m pc ls st0) rest (KQ vof sof G cy L K (va_A (plw cy L K S) H.size) out a) (va_A (plw cy L K S) H.size))
    (kk : ∀ (H1 : Heap) (locs1 : List Loc), va_P G vwCl (plw cy L K (sof out)) H1 → va_D A (plw cy L K (sof out)) → va_S A s.heap H1 locs1 → WT L K (sof out) → W p l e R s m args below meth c H1 locs1 ce sl Q (F0 m (pc + 3) ls ((vof out).toList ++ rest))) : W p l e R s m args below meth c H locs ce sl Q (F0 m pc ls st0) := by
  have hA1 : ∀ q, va_A (plw cy L K S) H.size q → A q := by
    intro q hq
    rcases hq with hq | hq
    · exact hL q (pl_A hq)
    · exact hA q (Nat.le_trans hS.1 hq)
  intro T hT X
  obtain ⟨v, st₀, t, T', L', h0, X', hL', e1, e2, ⟨⟨hv, hP, hD, hw⟩, hz, hk⟩, st⟩ := hr T hT X
  cases hv
  rw [h0] at hz hk
  obtain ⟨t2, a1, b1⟩ := kk T'.heap (locs ++ L') (by rw [e1]; exact hP) (hD.weaken (fun k q _ h => hA1 q.1 h)) ⟨Nat.le_trans hS.1 (by rw [e1]; exact hz), fun q h1 h2 => by rw [e1, hk q (Nat.lt_of_lt_of_le h1 hS.1) (fun z => h2 (hA1 q z))]; exact hS.2.1 q h1 h2, fun q hq => by
      rcases List.mem_append.mp hq with h | h
      · exact hS.2.2 q h
      · exact hA1 _ (hL' q h)⟩ hw T' rfl X'
  exact ⟨t2, st t2 a1, b1⟩
section
variable {α α' : Type} {C : CT} {cc : ByteArray} {nL : Nat} {own : String} {fr lo : Nat} {Q : α → State → Prop} {S : St} {vs : List (Option Value)} {st0 : List Value} {pc idx : Nat} {vof : α' → Option Value} {sof : α' → St} {y : MethodName} {cc' : ByteArray} {nL' fr' lo' n : Nat} {ret' : Option FieldType} {F' : Option α'} {k : α' → Option α} {ta : List (Nat × Nat)} {ar : (Nat → ClassId) → List Value}
theorem s_callV (X : Cx C cc nL own fr lo) (E : cE C) {As rest : List Value} {b ci : Nat} {Tn : u_T} {Nn : Nat} (mv : MV own idx y cc' nL' ret' n) (ct : Ct y cc' nL' ret' fr' lo' ar ta S F' vof sof) (har : ar (cyC C) = .ref b :: As) (hta : ∀ q ∈ ta, tT C q.1 q.2) (hc : vwCl[ci]? = some (y.cls, Tn, Nn)) (hci : ci < 12) (tb : tT C b ci) (hn : As.length = n) (hst : st0 = As.reverse ++ .ref b :: rest) (hcat : (rest.map fun v => v.category).sum ≤ 8) (hfr : fr' + 1 ≤ fr) (hlo : 8 + (nL' + 11) + lo' ≤ lo) (d : decode cc pc = .ok (.invokevirtual idx, 3)) {st' : α' → List Value} (hs : ∀ o, (vof o).toList ++ rest = st' o) (kk : ∀ o, Jd C nL Q (sof o) (pc + 3) vs (st' o) (k o)) : Jd C nL Q S pc vs st0 (cl F' k) := by
  obtain ⟨p, l, e, R, s, m, args, below, meth, c, A, G, cy, L, K, ce, sl⟩ := C
  intro out hF hw H locs ls hP hD hS hl
  cases F' with
  | none => cases hF
  | some o =>
    have hM := ct l G cy L K H.size o rfl hta
    have har : ar cy = _ := har
    rw [har] at hM
    obtain ⟨hx, hb, hml, hown, hts, hK, hA, hlk, hRf, hRl, hL, hce, hsl⟩ := id X
    obtain ⟨m1, m2, m3, m4, m5, m6⟩ := mv
    have hA1 : ∀ q, va_A (plw cy L K S) H.size q → A q := by
      intro q hq
      rcases hq with hq | hq
      · exact hL q (pl_A hq)
      · exact hA q (Nat.le_trans hS.1 hq)
    obtain ⟨q0, hq⟩ := pl_get (cy := cy) (K := K) (S := S) tb.1
    rw [ent_obj (cy := cy) (S := S) tb.2 hci] at hq
    refine run_go (S := S) hS hA hL (va_runV (As := As) (rest := rest) (C := y.cls) (bytes := cc') (maxL := nL') (ret := ret') (Ts := TT) (own := own) (n := n) ⟨hx, hb, hml, hown, hts⟩ hM ⟨callB_of (Ts := TT) (ws' := TT) n hts (gd_T m5) rfl rfl rfl (hts _ m4) (hts _ m1) m6 ⟨by rw [hRf]; exact hfr, by rw [hRl]; exact hlo⟩, hts _ m2, hts _ m3⟩ ⟨KP_blind, va_recv hK hP hc hq, fun U hU hW => ⟨rfl, by rw [hU], by rw [hU]; exact hP, va_K.moved hW.alike hK, hD.weaken (fun _ _ _ _ => trivial), hw, EX_call E hS hU hW hA1⟩⟩ rfl hn hl.1 hst (lv_room hcat) d ⟨hce, hsl⟩) (fun H1 locs1 hP1 hD1 hS1 hw1 => ?_)
    rw [hs o]
    exact kk o out hF hw1 H1 locs1 ls hP1 hD1 hS1 hl
theorem s_callS (X : Cx C cc nL own fr lo) (E : cE C) {As rest : List Value} (mv : MS own idx y cc' nL' ret' n) (ct : Ct y cc' nL' ret' fr' lo' ar ta S F' vof sof) (har : ar (cyC C) = As) (hta : ∀ q ∈ ta, tT C q.1 q.2) (hn : As.length = n) (hst : st0 = As.reverse ++ rest) (hcat : (rest.map fun v => v.category).sum ≤ 8) (hfr : fr' + 1 ≤ fr) (hlo : 8 + (nL' + 11) + lo' ≤ lo) (d : decode cc pc = .ok (.invokestatic idx, 3)) {st' : α' → List Value} (hs : ∀ o, (vof o).toList ++ rest = st' o) (kk : ∀ o, Jd C nL Q (sof o) (pc + 3) vs (st' o) (k o)) : Jd C nL Q S pc vs st0 (cl F' k) := by
  obtain ⟨p, l, e, R, s, m, args, below, meth, c, A, G, cy, L, K, ce, sl⟩ := C
  intro out hF hw H locs ls hP hD hS hl
  cases F' with
  | none => cases hF
  | some o =>
    have hM := ct l G cy L K H.size o rfl hta
    have har : ar cy = _ := har
    rw [har] at hM
    obtain ⟨hx, hb, hml, hown, hts, hK, hA, hlk, hRf, hRl, hL, hce, hsl⟩ := id X
    obtain ⟨m1, m2, m4, m5, m6⟩ := mv
    have hA1 : ∀ q, va_A (plw cy L K S) H.size q → A q := by
      intro q hq
      rcases hq with hq | hq
      · exact hL q (pl_A hq)
      · exact hA q (Nat.le_trans hS.1 hq)
    refine run_go (S := S) hS hA hL (va_runS (As := As) (rest := rest) (bytes := cc') (maxL := nL') (ret := ret') (Ts := TT) (own := own) (n := n) ⟨hx, hb, hml, hown, hts⟩ hM ⟨callB_of (Ts := TT) (ws' := TT) n hts (gd_T m5) rfl rfl rfl (hts _ m4) (hts _ m1) m6 ⟨by rw [hRf]; exact hfr, by rw [hRl]; exact hlo⟩, hts _ m2⟩ ⟨KP_blind, fun U hU hW => ⟨rfl, by rw [hU], by rw [hU]; exact hP, va_K.moved hW.alike hK, hD.weaken (fun _ _ _ _ => trivial), hw, EX_call E hS hU hW hA1⟩⟩ rfl hn hl.1 hst (lv_room hcat) d ⟨hce, hsl⟩) (fun H1 locs1 hP1 hD1 hS1 hw1 => ?_)
    rw [hs o]
    exact kk o out hF hw1 H1 locs1 ls hP1 hD1 hS1 hl
theorem s_callN (X : Cx C cc nL own fr lo) (E : cE C) {As rest : List Value} (mv : MN own idx y cc' nL' ret' n) (ct : Ct y cc' nL' ret' fr' lo' ar ta S F' vof sof) (har : ar (cyC C) = As) (hta : ∀ q ∈ ta, tT C q.1 q.2) (hn : As.length = n) (hst : st0 = As.reverse ++ rest) (hcat : (rest.map fun v => v.category).sum ≤ 8) (hfr : fr' + 1 ≤ fr) (hlo : 8 + (nL' + 11) + lo' ≤ lo) (d : decode cc pc = .ok (.invokestatic idx, 3)) {st' : α' → List Value} (hs : ∀ o, (vof o).toList ++ rest = st' o) (kk : ∀ o, Jd C nL Q (sof o) (pc + 3) vs (st' o) (k o)) : Jd C nL Q S pc vs st0 (cl F' k) := by
  obtain ⟨p, l, e, R, s, m, args, below, meth, c, A, G, cy, L, K, ce, sl⟩ := C
  intro out hF hw H locs ls hP hD hS hl
  cases F' with
  | none => cases hF
  | some o =>
    have hM := ct l G cy L K H.size o rfl hta
    have har : ar cy = _ := har
    rw [har] at hM
    obtain ⟨hx, hb, hml, hown, hts, hK, hA, hlk, hRf, hRl, hL, hce, hsl⟩ := id X
    obtain ⟨⟨host, m1⟩, m2, m4, m5, m6⟩ := mv
    have hA1 : ∀ q, va_A (plw cy L K S) H.size q → A q := by
      intro q hq
      rcases hq with hq | hq
      · exact hL q (pl_A hq)
      · exact hA q (Nat.le_trans hS.1 hq)
    refine run_go (S := S) hS hA hL (va_runSN (As := As) (rest := rest) (bytes := cc') (maxL := nL') (ret := ret') (Ts := TT) (own := own) (n := n) ⟨hx, hb, hml, hown, hts⟩ hM ⟨va_cnB (Ts := TT) (ws' := TT) n hts (gd_T m5) rfl rfl rfl (E.1 _ m1) (hts _ m4) m6 ⟨by rw [hRf]; exact hfr, by rw [hRl]; exact hlo⟩, hts _ m2, trivial⟩ ⟨KP_blind, fun U hU hW => ⟨rfl, by rw [hU], by rw [hU]; exact hP, va_K.moved hW.alike hK, hD.weaken (fun _ _ _ _ => trivial), hw, EX_call E hS hU hW hA1⟩⟩ rfl hn hl.1 hst (lv_room hcat) d ⟨hce, hsl⟩) (fun H1 locs1 hP1 hD1 hS1 hw1 => ?_)
    rw [hs o]
    exact kk o out hF hw1 H1 locs1 ls hP1 hD1 hS1 hl
end
