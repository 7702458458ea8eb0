/-! the law's helpers: they catch; an exception caught costs one cell of six slots -/
abbrev oH : Int32 × St × Nat → Option Value := fun r => some (.int r.1)
abbrev sH : Int32 × St × Nat → St := fun r => r.2.1
abbrev rmh (fr lo k : Nat) : Room := { frames := fr, cells := k, slots := 6 * k, locals := lo }
def CtL (y : MethodName) (cc : ByteArray) (nL : Nat) (hh : List (Nat × Nat × Nat × Nat)) (fr lo : Nat) (args : List Value) (ta : List (Nat × Nat)) (S : St) (F : Option (Int32 × St × Nat)) : Prop :=
  ∀ (l : Launch) (G : va_G) (cy : Nat → ClassId) (L : List Nat) (K : Nat → Nat) (sz : Nat) (out : Int32 × St × Nat), l.stackTraces = false → F = some out → (∀ q ∈ ta, q.1 ∈ L ∧ K q.1 = q.2) →
    Met l y (Cond.codeWith y cc nL (some .int) hh :: TT) (rmh fr lo out.2.2) (KP args S G cy L K sz) (KQ oH sH G cy L K (va_A (plw cy L K S) sz) out) out.2.2 (6 * out.2.2) (va_A (plw cy L K S) sz)
def QL (C : CT) : Int32 × St × Nat → State → Prop := match C with
  | (_, _, _, R, s, _, args, below, _, _, A, G, cy, L, K, _, _) => fun out t => (out.2.2 ≤ R.cells ∧ 6 * out.2.2 ≤ R.slots) → MQ below (KQ oH sH G cy L K A out) args s out.2.2 (6 * out.2.2) A t
def tL (C : CT) (hh : List (Nat × Nat × Nat × Nat)) : Prop := match C with
  | (_, l, _, _, _, _, _, _, _, c, _, _, _, _, _, ce, sl) => (ce = 0 ∧ sl = 0) ∧ l.stackTraces = false ∧ c.exceptionTable.toList = tableOf hh
theorem Met_ofWH {l : Launch} {y : MethodName} {ws ws' : List Cond} {rm : Room} {Pc : Array Value → State → Prop} {Qc : Array Value → State → Outcome → State → Prop} {mc ms : Nat} {free : Addr → Prop} {cc : ByteArray} {maxL : Nat} {ret : Option FieldType} {hh : List (Nat × Nat × Nat × Nat)}
    (hy : plainName y.cls = true) (hw : ws = Cond.codeWith y cc maxL ret hh :: ws')
    (body : ∀ p e s m args below meth c s₁, BodyLoose p l y (headSpec ws rm) cc maxL ret e s m args below meth c s₁ → c.maxLocals = maxL → Pc args s →
      W p l e (headSpec ws rm).room s m args below meth c s.heap [] 0 0 (MQ below Qc args s mc ms free) (entryFrame m args maxL)) : Met l y ws rm Pc Qc mc ms free := by
  refine MetFree.of_bodyS (code := cc) (maxLocals := maxL) (ret := ret) hy ?_ ?_
  · intro args s m h hn
    obtain ⟨m9, meth, c, hn9, h1, h2, h3, h4, -, h5, h6, -⟩ := Cond.codeWith_spec (atoms_spec (ws := ws) h _ (by rw [hw]; exact List.mem_cons_self))
    cases hn.symm.trans hn9
    exact ⟨meth, c, h1, h2, h3, h4, h5, h6⟩
  · intro p e s m args below meth c s₁ B hml hP _
    have hh0 : s₁.heap = s.heap := by rw [B.state]; rfl
    obtain ⟨t, a1, o, b1, b2, b3, b4⟩ := body p e s m args below meth c s₁ B hml hP s₁ hh0 (Stand.of_body B)
    exact ⟨t, o, a1, b1, b2, b3, b4⟩
theorem CtL_of {y : MethodName} {cc : ByteArray} {nL : Nat} {hh : List (Nat × Nat × Nat × Nat)} {fr lo : Nat} {args : List Value} {ta : List (Nat × Nat)} {S : St} {F : Option (Int32 × St × Nat)} (own : String) (hown : y.cls = own) (hy : plainName y.cls = true) (hlen : (lg_sl args).length ≤ nL) (n : Nat) {vs : List (Option Value)} (hvs : vsa args ++ List.replicate n none = vs)
    (h : ∀ C : CT, Cx C cc nL own fr lo → cE C → rT C (some .int) → tL C hh → (∀ q ∈ ta, tT C q.1 q.2) → Jd C nL (QL C) S 0 vs [] F) : CtL y cc nL hh fr lo args ta S F := by
  intro l G cy L K sz out hst hF hta
  refine Met_ofWH (cc := cc) (maxL := nL) (ret := some .int) (hh := hh) hy rfl ?_
  intro p e s m args' below meth c s₁ B hml hv
  obtain ⟨rfl, hsz, hP, hK, hD0, hw, hE⟩ := hv
  have hts := atoms_spec (ws := Cond.codeWith y cc nL (some .int) hh :: TT) B.pre
  have hfc : s.vm.findClass own = some m.cls := by rw [← hown]; exact findClass_of_methodNamed B.named
  subst hsz
  have hD := hD0.self (sz := s.heap.size)
  have h1 := h (p, l, e, rmh fr lo out.2.2, s, m, args.toArray, below, meth, c, va_A (plw cy L K S) s.heap.size, G, cy, L, K, 0, 0) ⟨B.exec, B.bytes, hml, hfc, fun w hw => hts w (List.mem_cons_of_mem _ hw), hK, fun q hq => Or.inr hq, B.notSynchronized, rfl, rfl, fun q hq => A_pl hq, Nat.zero_le _, Nat.zero_le _⟩ hE B.returns ⟨⟨rfl, rfl⟩, hst, vx_table (x := y) B (hts _ List.mem_cons_self)⟩ hta
  have hl := lv_entry args (n := nL) hlen
  rw [lg_entry_eq]
  have h2 := h1 out hF hw s.heap [] _ hP hD va_S.rf ⟨hl.1, hl.2.1, fun i v hi => by
    rw [← hvs] at hi
    have := vsa_at args 0 i v (vsa_pad hi)
    rw [Nat.zero_add] at this
    exact hl.2.2 (i, v) this⟩
  intro T hT X
  obtain ⟨t, a1, b1⟩ := h2 T hT X
  exact ⟨t, a1, b1 ⟨Nat.le_refl _, Nat.le_refl _⟩⟩
def clc {α : Type} {β : Type} (x : Option (α ⊕ Nat)) (k : α → Option β) (h : Nat → Option β) : Option β := match x with
  | some (.inl v) => k v
  | some (.inr n) => h n
  | none => none
/-- where an exception n that comes at pc is caught: the handler puts it away and answers r -/
def HC (own : String) (cc : ByteArray) (nL : Nat) (hh : List (Nat × Nat × Nat × Nat)) (pc n : Nat) (r : Int32) : Prop :=
  ∃ (pre : List (Nat × Nat × Nat × Nat)) (x : Nat × Nat × Nat × Nat) (suf : List (Nat × Nat × Nat × Nat)) (k len p2 : Nat) (ri : Int), hh = pre ++ x :: suf ∧ (∀ z ∈ pre, z.2.2.2 ≠ 0 ∧ ∃ j : Nat, Cond.classLink own z.2.2.2 (exn j) ∈ TT ∧ ((n = 2 ∧ j = 1) ∨ (n = 3 ∧ j = 1) ∨ (n = 3 ∧ j = 2))) ∧ covers ⟨x.1, x.2.1, x.2.2.1, x.2.2.2⟩ pc = true ∧ x.2.2.2 ≠ 0 ∧ Cond.classLink own x.2.2.2 (exn n) ∈ TT ∧ Cond.castable (exn n) (exn n) ∈ NW ∧
    ((decode cc x.2.2.1 = .ok (.astore_n (Fin.ofNat 4 k), 1) ∧ k < 4 ∧ len = 1) ∨ (decode cc x.2.2.1 = .ok (.astore k, 2) ∧ len = 2)) ∧ k < nL ∧ p2 = x.2.2.1 + len ∧ decode cc p2 = .ok (.iconst ri, 1) ∧ Int32.ofInt ri = r ∧ decode cc (p2 + 1) = .ok (.ireturn, 1)
section
variable {C : CT} {cc : ByteArray} {nL : Nat} {own : String} {fr lo : Nat} {S : St} {vs : List (Option Value)} {st : List Value} {pc : Nat} {hh : List (Nat × Nat × Nat × Nat)}
theorem s_iretL (X : Cx C cc nL own fr lo) (hr : rT C (some .int)) (tl : tL C hh) (d : decode cc pc = .ok (.ireturn, 1)) {v : Int32} : Jd C nL (QL C) S pc vs [.int v] (some (v, S, 0)) := by
  obtain ⟨p, l, e, R, s, m, args, below, meth, c, A, G, cy, L, K, ce, sl⟩ := C
  intro out hF hw H locs ls hP hD hS hl
  cases hF
  obtain ⟨⟨rfl, rfl⟩, tl⟩ := tl
  have key := W.iret (R := R) (below := below) (Qc := KQ oH sH G cy L K A (v, S, 0)) (free := A) X.1 X.2.1 hr (ls := ls) (v := v) (H := H) (locs := locs) (cells := 0) (slots := 0) (args := args) (s := s) (m := m) (l := l) (e := e) (fun t ht hW => ⟨⟨rfl, by rw [ht]; exact hP, hD, hw⟩, hS.F ht⟩) hS.2.2 d X.2.2.2.2.2.2.2.1
  intro T hT X
  obtain ⟨t, a1, b1⟩ := key T hT X
  exact ⟨t, a1, fun _ => b1⟩
end
section
variable {α' : Type} {C : CT} {cc : ByteArray} {nL : Nat} {own : String} {fr lo : Nat} {S : St} {vs : List (Option Value)} {st0 : List Value} {pc idx : Nat} {vof : α' → Option Value} {sof : α' → St} {y : MethodName} {cc' : ByteArray} {nL' fr' lo' n : Nat} {ret' : Option FieldType} {F' : Option (α' ⊕ Nat)} {k : α' → Option (Int32 × St × Nat)} {hx : Nat → Option (Int32 × St × Nat)} {ta : List (Nat × Nat)} {hh : List (Nat × Nat × Nat × Nat)} {ar : (Nat → ClassId) → List Value}
theorem s_callVC (X : Cx C cc nL own fr lo) (E : cE C) (hr : rT C (some .int)) (tl : tL C hh) {As rest : List Value} {b ci : Nat} {Tn : u_T} {Nn : Nat} (mv : MV own idx y cc' nL' ret' n) (ct : CtX y cc' nL' ret' fr' lo' ar ta S F' vof sof) (har : ar (cyC C) = .ref b :: As) (hta : ∀ q ∈ ta, tT C q.1 q.2) (hc : vwCl[ci]? = some (y.cls, Tn, Nn)) (hci : ci < 12) (tb : tT C b ci) (hn : As.length = n) (hst : st0 = As.reverse ++ .ref b :: rest) (hcat : (rest.map fun v => v.category).sum ≤ 8) (hfr : fr' + 1 ≤ fr) (hlo : 8 + (nL' + 11) + lo' ≤ lo) (d : decode cc pc = .ok (.invokevirtual idx, 3)) (hH : ∀ j o, hx j = some o → ∃ r, o = (r, S, 1) ∧ HC own cc nL hh pc j r) {st' : α' → List Value} (hs : ∀ o, (vof o).toList ++ rest = st' o) (kk : ∀ o, Jd C nL (QL C) (sof o) (pc + 3) vs (st' o) (k o)) : Jd C nL (QL C) S pc vs st0 (clc F' k hx) := by
  obtain ⟨p, l, e, R, s, m, args, below, meth, c, A, G, cy, L, K, ce, sl⟩ := C
  intro out hF hw H locs ls hP hD hS hl
  obtain ⟨hx0, hb, hml, hown, hts, hK, hA, hlk, hRf, hRl, hL, hce, hsl⟩ := id X
  obtain ⟨⟨rfl, rfl⟩, tl⟩ := tl
  obtain ⟨m1, m2, m3, m4, m5, m6⟩ := mv
  have hA1 : ∀ q, va_A (plw cy L K S) H.size q → A q := by
    intro q hq
    rcases hq with hq | hq
    · exact hL q (pl_A hq)
    · exact hA q (Nat.le_trans hS.1 hq)
  obtain ⟨q0, hq⟩ := pl_get (cy := cy) (K := K) (S := S) tb.1
  rw [ent_obj (cy := cy) (S := S) tb.2 hci] at hq
  cases F' with
  | none => cases hF
  | some r =>
    cases r with
    | inl o =>
      have hM := (ct l G cy L K H.size tl.1 hta).1 o rfl
      have har : ar cy = _ := har
      rw [har] at hM
      refine run_go (S := S) hS hA hL (va_runV (As := As) (rest := rest) (C := y.cls) (bytes := cc') (maxL := nL') (ret := ret') (Ts := TT) (own := own) (n := n) ⟨hx0, hb, hml, hown, hts⟩ hM ⟨callB_of (Ts := TT) (ws' := TT) n hts (gd_T m5) rfl rfl rfl (hts _ m4) (hts _ m1) m6 ⟨by rw [hRf]; exact hfr, by rw [hRl]; exact hlo⟩, hts _ m2, hts _ m3⟩ ⟨KP_blind, va_recv hK hP hc hq, fun U hU hW => ⟨rfl, by rw [hU], by rw [hU]; exact hP, va_K.moved hW.alike hK, hD.weaken (fun _ _ _ _ => trivial), hw, EX_call E hS hU hW hA1⟩⟩ rfl hn hl.1 hst (lv_room hcat) d ⟨hce, hsl⟩) (fun H1 locs1 hP1 hD1 hS1 hw1 => ?_)
      rw [hs o]
      exact kk o out hF hw1 H1 locs1 ls hP1 hD1 hS1 hl
    | inr j =>
      obtain ⟨r, rfl, hcc⟩ := hH j out hF
      by_cases hR : 1 ≤ R.cells ∧ 6 * 1 ≤ R.slots
      · have hM := (ct l G cy L K H.size tl.1 hta).2 j rfl
        have har : ar cy = _ := har
        rw [har] at hM
        have hrun := vx_runV (p := p) (e := e) (below := below) (meth := meth) (locs := locs) (cells := 0) (slots := 0) (g := F0 m pc ls st0) (As := As) (rest := rest) (C := y.cls) (bytes := cc') (maxL := nL') (ret := ret') (Ts := TT) (own := own) (n := n) ⟨hx0, hb, hml, hown, hts⟩ hM ⟨callB_of (Ts := TT) (ws' := TT) n hts (gd_T m5) rfl rfl rfl (hts _ m4) (hts _ m1) m6 ⟨by rw [hRf]; exact hfr, by rw [hRl]; exact hlo⟩, hts _ m2, hts _ m3⟩ ⟨KP_blind, va_recv hK hP hc hq, fun U hU hW => ⟨rfl, by rw [hU], by rw [hU]; exact hP, va_K.moved hW.alike hK, hD.weaken (fun _ _ _ _ => trivial), hw, EX_call E hS hU hW hA1⟩⟩ rfl hn hl.1 hst (lv_room hcat) d ⟨by omega, by omega⟩
        obtain ⟨pre, x, suf, kx, len, p2, ri, c1, c2, c3, c4, c5, c6, c7, c8, c9, c10, c11, c12⟩ := hcc
        intro T hT X9
        rcases hrun T hT X9 with ⟨v, st₀, t, T', L', h0, X', hL', e1, e2, hq, st⟩ | ⟨q, st₀, t, T', L', E', cel, h0, X', hL', e1, e2, ⟨⟨hE', hP1, hD1, hw1⟩, hz, hk⟩, hcel, hcv, hcl, st⟩
        · exact hq.elim
        · rw [h0] at hz hk
          subst hE'
          have hS1 : va_S A s.heap T'.heap (locs ++ L') := ⟨Nat.le_trans hS.1 (by rw [e1]; exact hz), fun q h1 h2 => by rw [e1, hk q (Nat.lt_of_lt_of_le h1 hS.1) (fun z => h2 (hA1 q z))]; exact hS.2.1 q h1 h2, fun q hq => by
            rcases List.mem_append.mp hq with h | h
            · exact hS.2.2 q h
            · exact hA1 _ (hL' q h)⟩
          have hP2 : va_P G vwCl (plw cy L K S) T'.heap := by rw [e1]; exact hP1
          have hD2 : va_D A (plw cy L K S) := hD1.weaken (fun k q _ h => hA1 q.1 h)
          obtain ⟨E1, E2, E3, E4, E5, E6, E7, E8, E9, E10⟩ := E
          have hfin : ∀ ls' : Array Slot, W p l e R s m args below meth c T'.heap (locs ++ L') (0 + 1) (0 + 6) (MQ below (KQ oH sH G cy L K A (r, S, 1)) args s 1 (6 * 1) A) (F0 m p2 ls' []) := fun ls' =>
            lv_iconst hx0 hb c10 c11 (W.iret hx0 hb hr (fun t ht hW => ⟨⟨rfl, by rw [ht]; exact hP2, hD2, hw1⟩, hS1.F ht⟩) hS1.2.2 c12 hlk)
          have hcatch : vx_W p l e R s m args below meth c T'.heap (locs ++ L') (0 + 1) (0 + 6) (MQ below (KQ oH sH G cy L K A (r, S, 1)) args s 1 (6 * 1) A) (F0 m pc ls rest) q := by
            refine vx_catch (E := exn j) (name := exn j) (ce := cel) hown (tableOf pre) ⟨x.1, x.2.1, x.2.2.1, x.2.2.2⟩ (tableOf suf) (by rw [tl.2, c1]; simp [tableOf]) (fun z hz => ?_) c3 c4 (hts _ c5) (va_Nw.use rfl (E1 _ c6)) (by rw [e1]; exact hcel) hcv hcl ?_
            · obtain ⟨z0, hz0, rfl⟩ := List.mem_map.mp hz
              obtain ⟨a1, j2, a2, a3⟩ := c2 z0 hz0
              refine Or.inr ⟨a1, exn j2, hts _ a2, ?_⟩
              rcases a3 with ⟨rfl, rfl⟩ | ⟨rfl, rfl⟩ | ⟨rfl, rfl⟩
              · exact E7
              · exact E8
              · exact E9
            · subst c9
              rcases c7 with ⟨c7, c7b, rfl⟩ | ⟨c7, rfl⟩
              · exact lv_astore_n hx0 hb c7 (fin4 c7b) hl.has c8 rfl (fun ls' _ => hfin ls')
              · exact lv_astore hx0 hb c7 hl.has c8 rfl (fun ls' _ => hfin ls')
          obtain ⟨t2, a2, b2⟩ := hcatch T' rfl X'
          exact ⟨t2, st.trans a2, fun _ => b2⟩
      · intro T hT X
        exact ⟨_, Steps.refl _, fun h => absurd h hR⟩
end
