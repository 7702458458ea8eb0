/-! methods that may throw: if the program answers .inl, the method returns and makes nothing; if .inr n, it throws the exception n, one cell -/
def exn (n : Nat) : String := match n with
  | 1 => "java/lang/IndexOutOfBoundsException"
  | 2 => "java/lang/IllegalArgumentException"
  | _ => "java/lang/IllegalStateException"
def XX (n : Nat) (S : St) (G : va_G) (cy : Nat → ClassId) (L : List Nat) (K : Nat → Nat) (A : Nat → Prop) : String → State → State → Prop := fun E st t => (E = exn n ∧ va_P G vwCl (plw cy L K S) t.heap ∧ va_D A (plw cy L K S) ∧ WT L K S) ∧ va_F A st t
abbrev rmx (fr lo : Nat) : Room := { frames := fr, cells := 1, slots := 6, locals := lo }
def CtX {α : Type} (y : MethodName) (cc : ByteArray) (nL : Nat) (ret : Option FieldType) (fr lo : Nat) (args : (Nat → ClassId) → List Value) (ta : List (Nat × Nat)) (S : St) (F : Option (α ⊕ Nat)) (vof : α → Option Value) (sof : α → St) : Prop :=
  ∀ (l : Launch) (G : va_G) (cy : Nat → ClassId) (L : List Nat) (K : Nat → Nat) (sz : Nat), l.stackTraces = false → (∀ q ∈ ta, q.1 ∈ L ∧ K q.1 = q.2) →
    (∀ o : α, F = some (.inl o) → Met l y (Cond.code y cc nL ret :: TT) (rmo fr lo) (KP (args cy) S G cy L K sz) (KQ vof sof G cy L K (va_A (plw cy L K S) sz) o) 0 0 (va_A (plw cy L K S) sz)) ∧
    (∀ n : Nat, F = some (.inr n) → vx_Met l y (Cond.code y cc nL ret :: TT) (rmx fr lo) (KP (args cy) S G cy L K sz) (fun _ _ _ _ => False) (XX n S G cy L K (va_A (plw cy L K S) sz)) 1 6 (va_A (plw cy L K S) sz))
def QX {α : Type} (C : CT) (vof : α → Option Value) (sof : α → St) (S0 : St) : α ⊕ Nat → State → Prop := match C with
  | (_, _, _, R, s, _, args, below, _, _, A, G, cy, L, K, ce, sl) => fun out => match out with
    | .inl o => MQ below (KQ vof sof G cy L K A o) args s ce sl A
    | .inr n => fun t => (1 ≤ R.cells ∧ 6 ≤ R.slots) → vx_MQ below (fun _ _ _ _ => False) (XX n S0 G cy L K A) args s 1 6 A t
def tX (C : CT) : Prop := match C with
  | (_, l, _, R, _, _, _, _, _, c, _, _, _, _, _, ce, sl) => (ce = 0 ∧ sl = 0) ∧ l.stackTraces = false ∧ ((1 ≤ R.cells ∧ 6 ≤ R.slots) → ∀ x ∈ c.exceptionTable.toList, False)
def clx {α : Type} {β : Type} (x : Option (α ⊕ Nat)) (k : α → Option (β ⊕ Nat)) : Option (β ⊕ Nat) := match x with
  | some (.inl v) => k v
  | some (.inr n) => some (.inr n)
  | none => none
theorem CtX_of {α : Type} {y : MethodName} {cc : ByteArray} {nL : Nat} {ret : Option FieldType} {fr lo : Nat} {args : (Nat → ClassId) → List Value} {ta : List (Nat × Nat)} {S : St} {F : Option (α ⊕ Nat)} {vof : α → Option Value} {sof : α → St} (own : String) (hown : y.cls = own) (hy : plainName y.cls = true) (hlen : ∀ cy, (lg_sl (args cy)).length ≤ nL) (n : Nat) {vs : (Nat → ClassId) → List (Option Value)} (hvs : ∀ cy, vsa (args cy) ++ List.replicate n none = vs cy)
    (h : ∀ C : CT, Cx C cc nL own fr lo → cE C → rT C ret → tX C → (∀ q ∈ ta, tT C q.1 q.2) → Jd C nL (QX C vof sof S) S 0 (vs (cyC C)) [] F) : CtX y cc nL ret fr lo args ta S F vof sof := by
  intro l G cy L K sz hl hta
  refine ⟨fun o hF => ?_, fun n hF => ?_⟩
  · refine Met.ofW (cc := cc) (maxL := nL) (ret := ret) hy rfl ?_
    intro p e s m args' below meth c s₁ B hml hv
    obtain ⟨rfl, hsz, hP, hK, hD0, hw, hE⟩ := hv
    have hts := atoms_spec (ws := Cond.code y cc nL ret :: TT) B.pre
    have hfc : s.vm.findClass own = some m.cls := by rw [← hown]; exact findClass_of_methodNamed B.named
    subst hsz
    have hD := hD0.self (sz := s.heap.size)
    have h1 := h (p, l, e, rmo fr lo, s, m, (args cy).toArray, below, meth, c, va_A (plw cy L K S) s.heap.size, G, cy, L, K, 0, 0) ⟨B.exec, B.bytes, hml, hfc, fun w hw => hts w (List.mem_cons_of_mem _ hw), hK, fun q hq => Or.inr hq, B.notSynchronized, rfl, rfl, fun q hq => A_pl hq, Nat.zero_le _, Nat.zero_le _⟩ hE B.returns ⟨⟨rfl, rfl⟩, hl, fun q => absurd q.1 (Nat.not_succ_le_zero 0)⟩ hta
    have hl := lv_entry (args cy) (n := nL) (hlen cy)
    rw [lg_entry_eq]
    refine h1 (.inl o) hF hw s.heap [] _ hP hD va_S.rf ⟨hl.1, hl.2.1, fun i v hi => ?_⟩
    have hi : (vs cy)[i]? = some (some v) := hi
    rw [← hvs cy] at hi
    have := vsa_at (args cy) 0 i v (vsa_pad hi)
    rw [Nat.zero_add] at this
    exact hl.2.2 (i, v) this
  · refine vx_ofW (cc := cc) (maxL := nL) (ret := ret) hy rfl ?_
    intro p e s m args' below meth c s₁ B hml hxt hv
    obtain ⟨rfl, hsz, hP, hK, hD0, hw, hE⟩ := hv
    have hts := atoms_spec (ws := Cond.code y cc nL ret :: TT) B.pre
    have hfc : s.vm.findClass own = some m.cls := by rw [← hown]; exact findClass_of_methodNamed B.named
    subst hsz
    have hD := hD0.self (sz := s.heap.size)
    have h1 := h (p, l, e, rmx fr lo, s, m, (args cy).toArray, below, meth, c, va_A (plw cy L K S) s.heap.size, G, cy, L, K, 0, 0) ⟨B.exec, B.bytes, hml, hfc, fun w hw => hts w (List.mem_cons_of_mem _ hw), hK, fun q hq => Or.inr hq, B.notSynchronized, rfl, rfl, fun q hq => A_pl hq, Nat.zero_le _, Nat.zero_le _⟩ hE B.returns ⟨⟨rfl, rfl⟩, hl, fun _ => hxt⟩ hta
    have hl := lv_entry (args cy) (n := nL) (hlen cy)
    rw [lg_entry_eq]
    have h2 := h1 (.inr n) hF hw s.heap [] _ hP hD va_S.rf ⟨hl.1, hl.2.1, fun i v hi => by
      have hi : (vs cy)[i]? = some (some v) := hi
      rw [← hvs cy] at hi
      have := vsa_at (args cy) 0 i v (vsa_pad hi)
      rw [Nat.zero_add] at this
      exact hl.2.2 (i, v) this⟩
    intro T hT X
    obtain ⟨t, a1, b1⟩ := h2 T hT X
    exact ⟨t, a1, b1 ⟨Nat.le_refl 1, Nat.le_refl 6⟩⟩
/-- the exception's own words -/
def XP (own : String) (ik is ic n : Nat) (text : String) : Prop := Cond.classLink own ik (exn n) ∈ TT ∧ Cond.initialized (exn n) ∈ TT ∧ (∃ sl, (own, is, text, sl) ∈ SR) ∧ (∀ w ∈ vx_atS own ic (exn n) ["java/lang/RuntimeException", "java/lang/Exception"], w ∈ TT ∨ w ∈ NW) ∧ (∀ w ∈ Cond.classLink own ik (exn n) :: Cond.initialized (exn n) :: vx_atS own ic (exn n) ["java/lang/RuntimeException", "java/lang/Exception"], vx_ot w = true) ∧ Bundle.fit (exn n) = true
theorem fit_names : ∀ n ∈ ["java/lang/RuntimeException", "java/lang/Exception"], Bundle.fit n = true := by decide +kernel
theorem P_grow {D : va_G} {cl : List vw_C} {ws : va_W} {H H1 : Heap} (hP : va_P D cl ws H) (h : ∀ q : Nat, q < H.size → H1[q]? = H[q]?) : va_P D cl ws H1 := fun k q hk => (hP k q hk).kept (h q.1 (hP k q hk).lt)
theorem NW_on {w : Cond} (h : w ∈ NW) : w.onTables = true := by
  have h1 := (List.mem_filter.mp h).2
  cases w with
  | methodLinkNest a i x y => rfl
  | castable a b => rfl
  | declares x => rfl
  | _ => cases h1
section
variable {α : Type} {C : CT} {cc : ByteArray} {nL : Nat} {own : String} {fr lo : Nat} {S S0 : St} {vs : List (Option Value)} {st : List Value} {pc : Nat} {vof : α → Option Value} {sof : α → St}
theorem s_iretX (X : Cx C cc nL own fr lo) (hr : rT C (some .int)) (d : decode cc pc = .ok (.ireturn, 1)) {v : Int32} {o : α} (hv : vof o = some (.int v)) (hs : sof o = S) : Jd C nL (QX C vof sof S0) S pc vs [.int v] (some (.inl o)) := by
  obtain ⟨p, l, e, R, s, m, args, below, meth, c, A, G, cy, L, K, ce, sl⟩ := C
  intro out hF hw H locs ls hP hD hS hl
  cases hF
  exact W.iret X.1 X.2.1 hr (fun t ht hW => ⟨⟨by rw [hv], by rw [ht, hs]; exact hP, by rw [hs]; exact hD, by rw [hs]; exact hw⟩, hS.F ht⟩) hS.2.2 d X.2.2.2.2.2.2.2.1
theorem s_lretX (X : Cx C cc nL own fr lo) (hr : rT C (some .long)) (d : decode cc pc = .ok (.lreturn, 1)) {v : Int64} {o : α} (hv : vof o = some (.long v)) (hs : sof o = S) : Jd C nL (QX C vof sof S0) S pc vs [.long v] (some (.inl o)) := by
  obtain ⟨p, l, e, R, s, m, args, below, meth, c, A, G, cy, L, K, ce, sl⟩ := C
  intro out hF hw H locs ls hP hD hS hl
  cases hF
  exact W.lret X.1 X.2.1 hr (fun t ht hW => ⟨⟨by rw [hv], by rw [ht, hs]; exact hP, by rw [hs]; exact hD, by rw [hs]; exact hw⟩, hS.F ht⟩) hS.2.2 d X.2.2.2.2.2.2.2.1
theorem s_zret0X (X : Cx C cc nL own fr lo) (hr : rT C (some .boolean)) (d : decode cc pc = .ok (.ireturn, 1)) {v : Int32} (hz : v = 0 ∨ v = 1) {o : α} (hv : vof o = some (.int v)) (hs : sof o = S) : Jd C nL (QX C vof sof S0) S pc vs [.int v] (some (.inl o)) := by
  obtain ⟨p, l, e, R, s, m, args, below, meth, c, A, G, cy, L, K, ce, sl⟩ := C
  intro out hF hw H locs ls hP hD hS hl
  cases hF
  exact W.zret X.1 X.2.1 hr (nar_b hz) (fun t ht hW => ⟨⟨by rw [hv], by rw [ht, hs]; exact hP, by rw [hs]; exact hD, by rw [hs]; exact hw⟩, hS.F ht⟩) hS.2.2 d X.2.2.2.2.2.2.2.1
theorem s_zretX (X : Cx C cc nL own fr lo) (hr : rT C (some .boolean)) (d : decode cc pc = .ok (.ireturn, 1)) {v : Int32} {o : α} (hv : vof o = some (.int v)) (hs : sof o = S) : Jd C nL (QX C vof sof S0) S pc vs [.int v] (zc v (some (.inl o))) := by
  by_cases hz : v = 0 ∨ v = 1
  · rw [show zc v (some (.inl o)) = some (.inl o : α ⊕ Nat) from if_pos hz]
    exact s_zret0X X hr d hz hv hs
  · rw [show zc v (some (.inl o)) = (none : Option (α ⊕ Nat)) from if_neg hz]
    exact s_none
theorem s_vretX (X : Cx C cc nL own fr lo) (hr : rT C none) (d : decode cc pc = .ok (.return_, 1)) {o : α} (hv : vof o = none) (hs : sof o = S) : Jd C nL (QX C vof sof S0) S pc vs [] (some (.inl o)) := by
  obtain ⟨p, l, e, R, s, m, args, below, meth, c, A, G, cy, L, K, ce, sl⟩ := C
  intro out hF hw H locs ls hP hD hS hl
  cases hF
  exact W.vret X.1 X.2.1 hr (fun t ht hW => ⟨⟨by rw [hv], by rw [ht, hs]; exact hP, by rw [hs]; exact hD, by rw [hs]; exact hw⟩, hS.F ht⟩) hS.2.2 d X.2.2.2.2.2.2.2.1
theorem s_throwW (X : Cx C cc nL own fr lo) (E : cE C) (tx : tX C) {ik is ic n : Nat} {text : String} (xp : XP own ik is ic n text) (hfr : 5 < fr) (hlo : (st.map fun v => v.category).sum + 82 ≤ lo) (d0 : decode cc pc = .ok (.new ik, 3)) (d3 : decode cc (pc + 3) = .ok (.dup, 1)) (d4 : decode cc (pc + 4) = .ok (.ldc_w is, 3)) (d7 : decode cc (pc + 7) = .ok (.invokespecial ic, 3)) (d10 : decode cc (pc + 10) = .ok (.athrow, 1)) : Jd C nL (QX C vof sof S) S pc vs st (some (.inr n)) := by
  obtain ⟨p, l, e, R, s, m, args, below, meth, c, A, G, cy, L, K, ce, sl⟩ := C
  intro out hF hw H locs ls hP hD hS hl
  cases hF
  obtain ⟨hx, hb, hml, hown, hts, hK, hA, hlk, hRf, hRl, hL, hce, hsl⟩ := id X
  obtain ⟨⟨rfl, rfl⟩, tx⟩ := tx
  by_cases hR : 1 ≤ R.cells ∧ 6 ≤ R.slots
  · obtain ⟨x1, x2, ⟨sl, x3⟩, x4, x5, x6⟩ := xp
    obtain ⟨E1, E2, E3, E4, E5, E6⟩ := E
    have key := vx_throwSW (p := p) (l := l) (e := e) (R := R) (s := s) (m := m) (args := args) (below := below) (meth := meth) (c := c) (H := H) (locs := locs) (cells := 0) (slots := 0) (ls := ls) (rest := st) (Qc := fun _ _ _ _ => False) (XC := XX n S G cy L K A) (mc := 1) (ms := 6) (free := A) (cc := cc) (pc := pc) hx hb tx.1 (own := own) (cls := exn n) (text := text) (names := ["java/lang/RuntimeException", "java/lang/Exception"]) (A := A) hown x6 fit_names (hts _ x1) (hts _ x2) (E3 _ x3) (fun w hw => (x4 w hw).elim (fun h => hts w h) (fun h => va_Nw.use (NW_on h) (E1 w h))) x5 E4 E5 hS (hl.1.trans hml.symm) d0 d3 d4 d7 d10 (fun x hxm => absurd hxm (fun q => tx.2 hR x q)) (by rw [hRf]; exact hfr) (by rw [hRl]; exact hlo) (by omega) (by omega) hlk
      (fun t ht hz hk => ⟨⟨rfl, P_grow hP hk, hD, hw⟩, Nat.le_trans hS.1 hz, fun q h1 h2 => by rw [hk q (Nat.lt_of_lt_of_le h1 hS.1)]; exact hS.2.1 q h1 h2⟩) hS.2.2 (Nat.le_refl 1) (Nat.le_refl 6)
    intro T hT X
    obtain ⟨t, a1, b1⟩ := key T hT X
    exact ⟨t, a1, fun _ => b1⟩
  · intro T hT X
    exact ⟨_, Steps.refl _, fun h => absurd h hR⟩
end
section
variable {α α' : Type} {C : CT} {cc : ByteArray} {nL : Nat} {own : String} {fr lo : Nat} {S : St} {vs : List (Option Value)} {st0 : List Value} {pc idx : Nat} {vof : α' → Option Value} {sof : α' → St} {y : MethodName} {cc' : ByteArray} {nL' fr' lo' n : Nat} {ret' : Option FieldType} {F' : Option (α' ⊕ Nat)} {k : α' → Option (α ⊕ Nat)} {ta : List (Nat × Nat)} {vo : α → Option Value} {so : α → St} {ar : (Nat → ClassId) → List Value}
/-- a callee's exception goes on -/
theorem run_out {p : Program} {l : Launch} {e : Env} {R : Room} {s : State} {m : MethodId} {args : Array Value} {below : List Frame} {meth : Method} {c : Code} {H : Heap} {locs : List Loc} {G : va_G} {cy : Nat → ClassId} {L : List Nat} {K : Nat → Nat} {A : Nat → Prop} {j pc : Nat} {ls : Array Slot} {st0 rest : List Value} {a : Array Value} (hS : va_S A s.heap H locs) (hA : ∀ q, s.heap.size ≤ q → A q) (hL : ∀ q ∈ L, A q) (hlk : meth.locks = false) (hxt : ∀ x ∈ c.exceptionTable.toList, False)
    (hr : vx_Run p l e R s m args below meth c H locs 0 0 1 6 (F0 m pc ls st0) rest ((fun _ _ _ _ => False : Array Value → State → Outcome → State → Prop) a) (XX j S G cy L K (va_A (plw cy L K S) H.size)) (va_A (plw cy L K S) H.size)) : W p l e R s m args below meth c H locs 0 0 (vx_MQ below (fun _ _ _ _ => False) (XX j S G cy L K A) args s 1 6 A) (F0 m pc ls st0) := by
  have hA1 : ∀ q, va_A (plw cy L K S) H.size q → A q := by
    intro q hq
    rcases hq with hq | hq
    · exact hL q (pl_A hq)
    · exact hA q (Nat.le_trans hS.1 hq)
  intro T hT X
  rcases hr T hT X with ⟨v, st₀, t, T', L', h0, X', hL', e1, e2, hq, st⟩ | ⟨q, st₀, t, T', L', E, ce, h0, X', hL', e1, e2, ⟨⟨hE, hP, hD, hw⟩, hz, hk⟩, hce, hcv, hcl, st⟩
  · exact hq.elim
  · rw [h0] at hz hk
    have hS1 : va_S A s.heap T'.heap (locs ++ L') := ⟨Nat.le_trans hS.1 (by rw [e1]; exact hz), fun q h1 h2 => by rw [e1, hk q (Nat.lt_of_lt_of_le h1 hS.1) (fun z => h2 (hA1 q z))]; exact hS.2.1 q h1 h2, fun q hq => by
      rcases List.mem_append.mp hq with h | h
      · exact hS.2.2 q h
      · exact hA1 _ (hL' q h)⟩
    obtain ⟨t2, a2, b2⟩ := vx_out (Qc := fun _ _ _ _ => False) (XC := XX j S G cy L K A) (free := A) (E := E) (ls := ls) (rest := rest) (pc := pc) (H := T'.heap) (locs := locs ++ L') (cells := 0 + 1) (slots := 0 + 6) (mc := 1) (ms := 6) (fun x hx => (hxt x hx).elim) hlk (by rw [e1]; exact hce) hcv hcl (fun t' ht' _ => ⟨⟨hE, by rw [ht', e1]; exact hP, hD.weaken (fun k q _ h => hA1 q.1 h), hw⟩, hS1.F ht'⟩) hS1.2.2 (Nat.le_refl 1) (Nat.le_refl 6) T' rfl X'
    exact ⟨t2, st.trans a2, b2⟩
theorem s_callVX (X : Cx C cc nL own fr lo) (E : cE C) (tx : tX C) {As rest : List Value} {b ci : Nat} {Tn : u_T} {Nn : Nat} (mv : MV own idx y cc' nL' ret' n) (ct : CtX y cc' nL' ret' fr' lo' ar ta S F' vof sof) (har : ar (cyC C) = .ref b :: As) (hta : ∀ q ∈ ta, tT C q.1 q.2) (hc : vwCl[ci]? = some (y.cls, Tn, Nn)) (hci : ci < 12) (tb : tT C b ci) (hn : As.length = n) (hst : st0 = As.reverse ++ .ref b :: rest) (hcat : (rest.map fun v => v.category).sum ≤ 8) (hfr : fr' + 1 ≤ fr) (hlo : 8 + (nL' + 11) + lo' ≤ lo) (d : decode cc pc = .ok (.invokevirtual idx, 3)) {st' : α' → List Value} (hs : ∀ o, (vof o).toList ++ rest = st' o) (kk : ∀ o, Jd C nL (QX C vo so S) (sof o) (pc + 3) vs (st' o) (k o)) : Jd C nL (QX C vo so S) S pc vs st0 (clx F' k) := by
  obtain ⟨p, l, e, R, s, m, args, below, meth, c, A, G, cy, L, K, ce, sl⟩ := C
  intro out hF hw H locs ls hP hD hS hl
  obtain ⟨hx, hb, hml, hown, hts, hK, hA, hlk, hRf, hRl, hL, hce, hsl⟩ := id X
  obtain ⟨⟨rfl, rfl⟩, tx⟩ := tx
  obtain ⟨m1, m2, m3, m4, m5, m6⟩ := mv
  have hA1 : ∀ q, va_A (plw cy L K S) H.size q → A q := by
    intro q hq
    rcases hq with hq | hq
    · exact hL q (pl_A hq)
    · exact hA q (Nat.le_trans hS.1 hq)
  obtain ⟨q0, hq⟩ := pl_get (cy := cy) (K := K) (S := S) tb.1
  rw [ent_obj (cy := cy) (S := S) tb.2 hci] at hq
  cases F' with
  | none => cases hF
  | some r =>
    cases r with
    | inl o =>
      have hM := (ct l G cy L K H.size tx.1 hta).1 o rfl
      have har : ar cy = _ := har
      rw [har] at hM
      refine run_go (S := S) hS hA hL (va_runV (As := As) (rest := rest) (C := y.cls) (bytes := cc') (maxL := nL') (ret := ret') (Ts := TT) (own := own) (n := n) ⟨hx, hb, hml, hown, hts⟩ hM ⟨callB_of (Ts := TT) (ws' := TT) n hts (gd_T m5) rfl rfl rfl (hts _ m4) (hts _ m1) m6 ⟨by rw [hRf]; exact hfr, by rw [hRl]; exact hlo⟩, hts _ m2, hts _ m3⟩ ⟨KP_blind, va_recv hK hP hc hq, fun U hU hW => ⟨rfl, by rw [hU], by rw [hU]; exact hP, va_K.moved hW.alike hK, hD.weaken (fun _ _ _ _ => trivial), hw, EX_call E hS hU hW hA1⟩⟩ rfl hn hl.1 hst (lv_room hcat) d ⟨hce, hsl⟩) (fun H1 locs1 hP1 hD1 hS1 hw1 => ?_)
      rw [hs o]
      exact kk o out hF hw1 H1 locs1 ls hP1 hD1 hS1 hl
    | inr j =>
      cases hF
      by_cases hR : 1 ≤ R.cells ∧ 6 ≤ R.slots
      · have hM := (ct l G cy L K H.size tx.1 hta).2 j rfl
        have har : ar cy = _ := har
        rw [har] at hM
        have key := run_out (e := e) (below := below) (a := #[]) (S := S) hS hA hL hlk (tx.2 hR) (vx_runV (As := As) (rest := rest) (C := y.cls) (bytes := cc') (maxL := nL') (ret := ret') (Ts := TT) (own := own) (n := n) ⟨hx, hb, hml, hown, hts⟩ hM ⟨callB_of (Ts := TT) (ws' := TT) n hts (gd_T m5) rfl rfl rfl (hts _ m4) (hts _ m1) m6 ⟨by rw [hRf]; exact hfr, by rw [hRl]; exact hlo⟩, hts _ m2, hts _ m3⟩ ⟨KP_blind, va_recv hK hP hc hq, fun U hU hW => ⟨rfl, by rw [hU], by rw [hU]; exact hP, va_K.moved hW.alike hK, hD.weaken (fun _ _ _ _ => trivial), hw, EX_call E hS hU hW hA1⟩⟩ rfl hn hl.1 hst (lv_room hcat) d ⟨by omega, by omega⟩)
        intro T hT X
        obtain ⟨t, a1, b1⟩ := key T hT X
        exact ⟨t, a1, fun _ => b1⟩
      · intro T hT X
        exact ⟨_, Steps.refl _, fun h => absurd h hR⟩
theorem s_callSX (X : Cx C cc nL own fr lo) (E : cE C) (tx : tX C) {As rest : List Value} (mv : MS own idx y cc' nL' ret' n) (ct : CtX y cc' nL' ret' fr' lo' ar ta S F' vof sof) (har : ar (cyC C) = As) (hta : ∀ q ∈ ta, tT C q.1 q.2) (hn : As.length = n) (hst : st0 = As.reverse ++ rest) (hcat : (rest.map fun v => v.category).sum ≤ 8) (hfr : fr' + 1 ≤ fr) (hlo : 8 + (nL' + 11) + lo' ≤ lo) (d : decode cc pc = .ok (.invokestatic idx, 3)) {st' : α' → List Value} (hs : ∀ o, (vof o).toList ++ rest = st' o) (kk : ∀ o, Jd C nL (QX C vo so S) (sof o) (pc + 3) vs (st' o) (k o)) : Jd C nL (QX C vo so S) S pc vs st0 (clx F' k) := by
  obtain ⟨p, l, e, R, s, m, args, below, meth, c, A, G, cy, L, K, ce, sl⟩ := C
  intro out hF hw H locs ls hP hD hS hl
  obtain ⟨hx, hb, hml, hown, hts, hK, hA, hlk, hRf, hRl, hL, hce, hsl⟩ := id X
  obtain ⟨⟨rfl, rfl⟩, tx⟩ := tx
  obtain ⟨m1, m2, m4, m5, m6⟩ := mv
  have hA1 : ∀ q, va_A (plw cy L K S) H.size q → A q := by
    intro q hq
    rcases hq with hq | hq
    · exact hL q (pl_A hq)
    · exact hA q (Nat.le_trans hS.1 hq)
  cases F' with
  | none => cases hF
  | some r =>
    cases r with
    | inl o =>
      have hM := (ct l G cy L K H.size tx.1 hta).1 o rfl
      have har : ar cy = _ := har
      rw [har] at hM
      refine run_go (S := S) hS hA hL (va_runS (As := As) (rest := rest) (bytes := cc') (maxL := nL') (ret := ret') (Ts := TT) (own := own) (n := n) ⟨hx, hb, hml, hown, hts⟩ hM ⟨callB_of (Ts := TT) (ws' := TT) n hts (gd_T m5) rfl rfl rfl (hts _ m4) (hts _ m1) m6 ⟨by rw [hRf]; exact hfr, by rw [hRl]; exact hlo⟩, hts _ m2⟩ ⟨KP_blind, fun U hU hW => ⟨rfl, by rw [hU], by rw [hU]; exact hP, va_K.moved hW.alike hK, hD.weaken (fun _ _ _ _ => trivial), hw, EX_call E hS hU hW hA1⟩⟩ rfl hn hl.1 hst (lv_room hcat) d ⟨hce, hsl⟩) (fun H1 locs1 hP1 hD1 hS1 hw1 => ?_)
      rw [hs o]
      exact kk o out hF hw1 H1 locs1 ls hP1 hD1 hS1 hl
    | inr j =>
      cases hF
      by_cases hR : 1 ≤ R.cells ∧ 6 ≤ R.slots
      · have hM := (ct l G cy L K H.size tx.1 hta).2 j rfl
        have har : ar cy = _ := har
        rw [har] at hM
        have key := run_out (e := e) (below := below) (a := #[]) (S := S) hS hA hL hlk (tx.2 hR) (vx_runS (As := As) (rest := rest) (bytes := cc') (maxL := nL') (ret := ret') (Ts := TT) (own := own) (n := n) ⟨hx, hb, hml, hown, hts⟩ hM ⟨callB_of (Ts := TT) (ws' := TT) n hts (gd_T m5) rfl rfl rfl (hts _ m4) (hts _ m1) m6 ⟨by rw [hRf]; exact hfr, by rw [hRl]; exact hlo⟩, hts _ m2⟩ ⟨KP_blind, fun U hU hW => ⟨rfl, by rw [hU], by rw [hU]; exact hP, va_K.moved hW.alike hK, hD.weaken (fun _ _ _ _ => trivial), hw, EX_call E hS hU hW hA1⟩⟩ rfl hn hl.1 hst (lv_room hcat) d ⟨by omega, by omega⟩)
        intro T hT X
        obtain ⟨t, a1, b1⟩ := key T hT X
        exact ⟨t, a1, fun _ => b1⟩
      · intro T hT X
        exact ⟨_, Steps.refl _, fun h => absurd h hR⟩
end
abbrev oU : Unit → Option Value := fun _ => none
theorem dkp {cc : ByteArray} {tb : List En} (ok : tb.all (okE cc) = true) (i : Nat) {q : En} (h : tb[i]? = some q) : decode cc q.1 = .ok (rl q) := by
  have h1 := List.all_eq_true.mp ok _ (List.mem_of_getElem? h)
  exact of_decide_eq_true (Bool.and_eq_true_iff.mp h1).1
