/-! a new object of a class with a contract, made inside a world X ++ pool -/
def NI (own : String) (ik ic : Nat) (y : MethodName) (cc' : ByteArray) (nL' ci N : Nat) : Prop := ∃ (T : u_T) (ty : Nat → FieldType), vwCl[ci]? = some (y.cls, T, N) ∧ (∀ w ∈ u_ws y.cls T N, w ∈ TT) ∧ (∀ k, k < N → parseFieldDescriptor (T k).2.2.1 = some (ty k)) ∧ (∀ j, j < N → defaultValue (ty j) = vp_V (raw ci) j) ∧ Cond.classLink own ik y.cls ∈ TT ∧ Cond.instantiable y.cls N ∈ TT ∧ Cond.initialized y.cls ∈ TT ∧ Cond.instanceMethod y ∈ TT ∧ Cond.code y cc' nL' none ∈ TT ∧ y.name = "<init>" ∧ (y.cls ≠ "java/lang/invoke/MethodHandle" ∧ y.cls ≠ "java/lang/invoke/VarHandle" ∧ (parseMethodDescriptor y.desc).map (fun d => d.parameters.length) = some 0) ∧ ((∃ host, Cond.methodLinkNest own ic y host ∈ NW) ∨ Cond.methodLink own ic y ∈ TT)
theorem PcI_blind {ci h0 sz : Nat} {G : va_G} {cy : Nat → ClassId} : FrameBlind (PcI ci h0 sz G cy) := by
  intro a U g mk q
  obtain ⟨q0, q1, qP, qK, qD, qE⟩ := q
  exact ⟨q0, q1, qP, va_K.moved (u := U) (U := U.calling g mk a) (Vm.Alike.refl U.vm) qK, qD, EX_blind qE⟩
section
variable {p : Program} {l : Launch} {e : Env} {R : Room} {s : State} {m : MethodId} {args : Array Value} {below : List Frame} {meth : Method} {c : Code} {H : Heap} {locs : List Loc} {cells slots : Nat} {Q : State → Prop} {A : Nat → Prop} {G : va_G} {cy : Nat → ClassId} {cc : ByteArray} {nL : Nat} {own : String} {ls : Array Slot} {st : List Value} {pc ik ic : Nat} {y : MethodName} {cc' : ByteArray} {nL' ci N fr' lo' mc ms : Nat} {X : va_W} {L : List Nat} {K : Nat → Nat} {S : St}
theorem w_sub (hx : p.tables.exec = Jvm.exec) (hb : c.code = cc) (hml : c.maxLocals = nL) (hown : s.vm.findClass own = some m.cls) (hts : ∀ w ∈ TT, w.before args s = true) (hK : va_K G vwCl (tys cy) s) (hA : ∀ q, s.heap.size ≤ q → A q) (hE : EX cy A s) (ni : NI own ik ic y cc' nL' ci N) (ct : CtI y cc' nL' ci fr' lo' mc ms) (hls : ls.size = nL) (hP : va_P G vwCl (X ++ plw cy L K S) H) (hD : va_D A (X ++ plw cy L K S)) (hS : va_S A s.heap H locs)
    (d0 : decode cc pc = .ok (.new ik, 3)) (d3 : decode cc (pc + 3) = .ok (.dup, 1)) (d4 : decode cc (pc + 4) = .ok (.invokespecial ic, 3)) (hfr : fr' + 1 ≤ R.frames) (hlo : 8 + (nL' + 11) + lo' ≤ R.locals) (hcat : ((Value.ref 0 :: st).map fun v => v.category).sum ≤ 8) (hce : cells + 1 + mc ≤ R.cells) (hsl : slots + N + ms ≤ R.slots)
    (kk : ∀ (q : Nat) (H1 : Heap) (locs1 : List Loc) (L2 : List Nat) (K2 : Nat → Nat) (S2 : St), PI ci L2 K2 S2 q → (∀ a ∈ L, a ∉ L2) → va_P G vwCl (X ++ plw cy (L ++ L2) (mK L2 K K2) (mS L2 S S2)) H1 → va_D A (X ++ plw cy (L ++ L2) (mK L2 K K2) (mS L2 S S2)) → va_S A s.heap H1 locs1 → W p l e R s m args below meth c H1 locs1 (cells + 1 + mc) (slots + N + ms) Q (F0 m (pc + 4 + 3) ls (.ref q :: st))) : W p l e R s m args below meth c H locs cells slots Q (F0 m pc ls st) := by
  obtain ⟨T, ty, n1, n2, n3, n4, n5, n6, n7, n8, n9, n10, n11, n12⟩ := ni
  refine va_new (ci := ci) (fs := raw ci) hx hb hts n2 ty n3 hown (hts _ n5) (hts _ n6) (hts _ n7) hK hP hD hS hA n1 n4 (by omega) (by omega) d0 (fun q H hP hD hS => ?_)
  refine lv_dup hx hb d3 rfl ?_
  have hA1 : ∀ z, va_A [(q, .inr (ci, raw ci))] H.size z → A z := by
    intro z hz
    rcases hz with ⟨k, e9, hz⟩ | hz
    · have hm : (z, e9) ∈ [(q, (.inr (ci, raw ci) : va_E))] := List.mem_of_getElem? hz
      rw [List.mem_singleton] at hm
      cases hm
      exact (D_right hD).2 0 _ rfl
    · exact hA z (Nat.le_trans hS.1 hz)
  have hM := ct l G cy q H.size
  have hpre : PreS s H (PcI ci q H.size G cy) (.ref q :: []) := ⟨PcI_blind, fun U hU hW => ⟨rfl, by rw [hU], by rw [hU]; exact P_right hP, va_K.moved hW.alike hK, (D_right hD).weaken (fun _ _ _ _ => trivial), EX_call hE hS hU hW hA1⟩⟩
  have hrun : va_Run p l e R s m args below meth c H locs (cells + 1) (slots + N) mc ms (F0 m (pc + 3 + 1) ls (.ref q :: .ref q :: st)) (.ref q :: st) (QI ci G cy (va_A [(q, .inr (ci, raw ci))] H.size) q (Value.ref q :: []).toArray) (va_A [(q, .inr (ci, raw ci))] H.size) := by
    rcases n12 with ⟨host, n12⟩ | n12
    · exact va_runIN (As := []) (bytes := cc') (maxL := nL') (Ts := TT) (own := own) (n := 0) ⟨hx, hb, hml, hown, hts⟩ hM ⟨va_cnB (Ts := TT) (ws' := TT) 0 hts (gd_T n9) rfl rfl rfl (hE.1 _ n12) (hts _ n7) n11 ⟨hfr, hlo⟩, n10, hts _ n8⟩ hpre rfl rfl hls rfl (lv_room hcat) d4 ⟨hce, hsl⟩
    · exact va_runI (As := []) (bytes := cc') (maxL := nL') (Ts := TT) (own := own) (n := 0) ⟨hx, hb, hml, hown, hts⟩ hM ⟨callB_of (Ts := TT) (ws' := TT) 0 hts (gd_T n9) rfl rfl rfl (hts _ n7) (hts _ n12) n11 ⟨hfr, hlo⟩, n10, hts _ n8⟩ hpre rfl rfl hls rfl (lv_room hcat) d4 ⟨hce, hsl⟩
  intro T9 hT X9
  obtain ⟨v, st₀, t, T', L', h0, X', hL', e1, e2, ⟨⟨hv, L2, K2, S2, hP1, hD1, hpi⟩, hz, hk⟩, stt⟩ := hrun T9 hT X9
  cases hv
  rw [h0] at hz hk
  obtain ⟨hP3, hD3⟩ := va_joinA hP hD (H1 := T'.heap) (fun z h1 h2 => by rw [e1]; exact hk z h1 h2) hA1 (by rw [e1]; exact hP1) hD1
  have hS1 : va_S A s.heap T'.heap (locs ++ L') := ⟨Nat.le_trans hS.1 (by rw [e1]; exact hz), fun z h1 h2 => by rw [e1, hk z (Nat.lt_of_lt_of_le h1 hS.1) (fun w => h2 (hA1 z w))]; exact hS.2.1 z h1 h2, fun z hz9 => by
    rcases List.mem_append.mp hz9 with h | h
    · exact hS.2.2 z h
    · exact hA1 _ (hL' z h)⟩
  rw [List.append_assoc] at hP3 hD3
  have hdis := pl_disj (D_right hD3)
  rw [← plw_app hdis] at hP3 hD3
  obtain ⟨t2, a2, b2⟩ := kk q T'.heap (locs ++ L') L2 K2 S2 hpi hdis hP3 hD3 hS1 T' rfl X'
  exact ⟨t2, stt t2 a2, b2⟩
end
