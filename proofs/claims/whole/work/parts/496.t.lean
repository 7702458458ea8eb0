/-! the start: the law from its entry -/
theorem ni_L_8_175 : NI RL 8 175 yX11_init cX11_init 1 10 11 := ⟨TX11, tyX11, rfl, uw_X11, tyX11_ok, (fun j hj => match j, hj with | 0, _ => rfl | 1, _ => rfl | 2, _ => rfl | 3, _ => rfl | 4, _ => rfl | 5, _ => rfl | 6, _ => rfl | 7, _ => rfl | 8, _ => rfl | 9, _ => rfl | 10, _ => rfl), TT_1 (i := 28) rfl rfl, TT_1 (i := 29) rfl rfl, TT_1 (i := 1) rfl rfl, TT_1 (i := 31) rfl rfl, TT_1 (i := 32) rfl rfl, rfl, ⟨by decide, by decide, by decide +kernel⟩, Or.inr (TT_1 (i := 30) rfl rfl)⟩
theorem ni_L_176_178 : NI RL 176 178 yX12_init cX12_init 1 11 22 := ⟨TX12, tyX12, rfl, uw_X12, tyX12_ok, (fun j hj => match j, hj with | 0, _ => rfl | 1, _ => rfl | 2, _ => rfl | 3, _ => rfl | 4, _ => rfl | 5, _ => rfl | 6, _ => rfl | 7, _ => rfl | 8, _ => rfl | 9, _ => rfl | 10, _ => rfl | 11, _ => rfl | 12, _ => rfl | 13, _ => rfl | 14, _ => rfl | 15, _ => rfl | 16, _ => rfl | 17, _ => rfl | 18, _ => rfl | 19, _ => rfl | 20, _ => rfl | 21, _ => rfl | k + 22, h => absurd h (by omega)), TT_7 (i := 214) rfl rfl, TT_7 (i := 215) rfl rfl, TT_1 (i := 13) rfl rfl, TT_7 (i := 217) rfl rfl, TT_7 (i := 218) rfl rfl, rfl, ⟨by decide, by decide, by decide +kernel⟩, Or.inr (TT_7 (i := 216) rfl rfl)⟩
def ed_st : List (Nat × Instr × Nat) := [(0, .new 8, 3), (3, .dup, 1), (4, .invokespecial 175, 3), (7, .astore_n 1, 1), (8, .new 176, 3), (11, .dup, 1), (12, .invokespecial 178, 3), (15, .astore_n 2, 1), (16, .iconst 1, 1), (17, .newarray .long, 2), (19, .astore_n 3, 1), (20, .iconst 0, 1), (21, .istore 4, 2)]
theorem okd_st : ed_st.all (okD code) = true := by decide +kernel
section
variable {p : Program} {l : Launch} {e : Env} {R : Room} {s : State} {m : MethodId} {args : Array Value} {below : List Frame} {meth : Method} {c : Code} {H : Heap} {locs : List Loc} {cells slots : Nat} {Q : State → Prop} {A : Nat → Prop} {G : va_G} {cy : Nat → ClassId} {cc : ByteArray} {nL : Nat} {own : String} {ls : Array Slot} {st : List Value} {pc ik ic : Nat} {y : MethodName} {cc' : ByteArray} {nL' ci N fr' lo' mc ms : Nat} {ws : va_W} {Pc : Nat → Nat → va_G → (Nat → ClassId) → Array Value → State → Prop} {Qc : va_G → (Nat → ClassId) → (Nat → Prop) → Nat → Array Value → State → Outcome → State → Prop} {Z : Nat → List Nat → (Nat → Nat) → St → Prop}
/-- a new object whose constructor leaves a pool, inside any world -/
theorem w_subG (hx : p.tables.exec = Jvm.exec) (hb : c.code = cc) (hml : c.maxLocals = nL) (hown : s.vm.findClass own = some m.cls) (hts : ∀ w ∈ TT, w.before args s = true) (hK : va_K G vwCl (tys cy) s) (hA : ∀ q, s.heap.size ≤ q → A q) (hE : EX cy A s) (ni : NI own ik ic y cc' nL' ci N) (ct : ∀ (l : Launch) (G : va_G) (cy : Nat → ClassId) (h0 sz : Nat), Met l y (Cond.code y cc' nL' none :: TT) (rmi fr' lo' mc ms) (Pc h0 sz G cy) (Qc G cy (va_A [(h0, .inr (ci, raw ci))] sz) h0) mc ms (va_A [(h0, .inr (ci, raw ci))] sz)) (hbl : ∀ q sz : Nat, FrameBlind (Pc q sz G cy)) (hpc : ∀ (q sz : Nat) (v : Array Value) (U : State), s.WarmedH U.vm → PcI ci q sz G cy v U → Pc q sz G cy v U)
    (hQc : ∀ (q : Nat) (B : Nat → Prop) (v : Array Value) (st : State) (oc : Outcome) (t : State), Qc G cy B q v st oc t → (oc = .returned none ∧ ∃ (L2 : List Nat) (K2 : Nat → Nat) (S2 : St), va_P G vwCl (plw cy L2 K2 S2) t.heap ∧ va_D B (plw cy L2 K2 S2) ∧ Z q L2 K2 S2) ∧ va_F B st t) (hls : ls.size = nL) (hP : va_P G vwCl ws H) (hD : va_D A ws) (hS : va_S A s.heap H locs)
    (d0 : decode cc pc = .ok (.new ik, 3)) (d3 : decode cc (pc + 3) = .ok (.dup, 1)) (d4 : decode cc (pc + 4) = .ok (.invokespecial ic, 3)) (hfr : fr' + 1 ≤ R.frames) (hlo : 8 + (nL' + 11) + lo' ≤ R.locals) (hcat : ((Value.ref 0 :: st).map fun v => v.category).sum ≤ 8) (hce : cells + 1 + mc ≤ R.cells) (hsl : slots + N + ms ≤ R.slots)
    (kk : ∀ (q : Nat) (H1 : Heap) (locs1 : List Loc) (L2 : List Nat) (K2 : Nat → Nat) (S2 : St), Z q L2 K2 S2 → va_P G vwCl (ws ++ plw cy L2 K2 S2) H1 → va_D A (ws ++ plw cy L2 K2 S2) → va_S A s.heap H1 locs1 → W p l e R s m args below meth c H1 locs1 (cells + 1 + mc) (slots + N + ms) Q (F0 m (pc + 4 + 3) ls (.ref q :: st))) : W p l e R s m args below meth c H locs cells slots Q (F0 m pc ls st) := by
  obtain ⟨T, ty, n1, n2, n3, n4, n5, n6, n7, n8, n9, n10, n11, n12⟩ := ni
  refine va_new (ci := ci) (fs := raw ci) hx hb hts n2 ty n3 hown (hts _ n5) (hts _ n6) (hts _ n7) hK hP hD hS hA n1 n4 (by omega) (by omega) d0 (fun q H hP hD hS => ?_)
  refine lv_dup hx hb d3 rfl ?_
  have hA1 : ∀ z, va_A [(q, .inr (ci, raw ci))] H.size z → A z := by
    intro z hz
    rcases hz with ⟨k, e9, hz⟩ | hz
    · have hm : (z, e9) ∈ [(q, (.inr (ci, raw ci) : va_E))] := List.mem_of_getElem? hz
      rw [List.mem_singleton] at hm
      cases hm
      exact (D_right hD).2 0 _ rfl
    · exact hA z (Nat.le_trans hS.1 hz)
  have hM := ct l G cy q H.size
  have hpre : PreS s H (Pc q H.size G cy) (.ref q :: []) := ⟨hbl q H.size, fun U hU hW => hpc q H.size _ U hW ⟨rfl, by rw [hU], by rw [hU]; exact P_right hP, va_K.moved hW.alike hK, (D_right hD).weaken (fun _ _ _ _ => trivial), EX_call hE hS hU hW hA1⟩⟩
  have hrun : va_Run p l e R s m args below meth c H locs (cells + 1) (slots + N) mc ms (F0 m (pc + 3 + 1) ls (.ref q :: .ref q :: st)) (.ref q :: st) (Qc G cy (va_A [(q, .inr (ci, raw ci))] H.size) q (Value.ref q :: []).toArray) (va_A [(q, .inr (ci, raw ci))] H.size) := by
    rcases n12 with ⟨host, n12⟩ | n12
    · exact va_runIN (As := []) (bytes := cc') (maxL := nL') (Ts := TT) (own := own) (n := 0) ⟨hx, hb, hml, hown, hts⟩ hM ⟨va_cnB (Ts := TT) (ws' := TT) 0 hts (gd_T n9) rfl rfl rfl (hE.1 _ n12) (hts _ n7) n11 ⟨hfr, hlo⟩, n10, hts _ n8⟩ hpre rfl rfl hls rfl (lv_room hcat) d4 ⟨hce, hsl⟩
    · exact va_runI (As := []) (bytes := cc') (maxL := nL') (Ts := TT) (own := own) (n := 0) ⟨hx, hb, hml, hown, hts⟩ hM ⟨callB_of (Ts := TT) (ws' := TT) 0 hts (gd_T n9) rfl rfl rfl (hts _ n7) (hts _ n12) n11 ⟨hfr, hlo⟩, n10, hts _ n8⟩ hpre rfl rfl hls rfl (lv_room hcat) d4 ⟨hce, hsl⟩
  intro T9 hT X9
  obtain ⟨v, st₀, t, T', L', h0, X', hL', e1, e2, hq9, stt⟩ := hrun T9 hT X9
  obtain ⟨⟨hv, L2, K2, S2, hP1, hD1, hpi⟩, hz, hk⟩ := hQc _ _ _ _ _ _ hq9
  cases hv
  rw [h0] at hz hk
  obtain ⟨hP3, hD3⟩ := va_joinA hP hD (H1 := T'.heap) (fun z h1 h2 => by rw [e1]; exact hk z h1 h2) hA1 (by rw [e1]; exact hP1) hD1
  have hS1 : va_S A s.heap T'.heap (locs ++ L') := ⟨Nat.le_trans hS.1 (by rw [e1]; exact hz), fun z h1 h2 => by rw [e1, hk z (Nat.lt_of_lt_of_le h1 hS.1) (fun w => h2 (hA1 z w))]; exact hS.2.1 z h1 h2, fun z hz9 => by
    rcases List.mem_append.mp hz9 with h | h
    · exact hS.2.2 z h
    · exact hA1 _ (hL' z h)⟩
  obtain ⟨t2, a2, b2⟩ := kk q T'.heap (locs ++ L') L2 K2 S2 hpi hP3 hD3 hS1 T' rfl X'
  exact ⟨t2, stt t2 a2, b2⟩
end
theorem PcX_blind {h0 sz : Nat} {G : va_G} {cy : Nat → ClassId} : FrameBlind (PcX h0 sz G cy) := by
  intro a U g mk q
  obtain ⟨q0, q1, qP, qK, qD, qE, qA⟩ := q
  exact ⟨q0, q1, qP, va_K.moved (u := U) (U := U.calling g mk a) (Vm.Alike.refl U.vm) qK, qD, EX_blind qE, va_AO.moved (u := U) (U := U.calling g mk a) (Vm.Alike.refl U.vm) qA⟩
def ZX (q : Nat) (L : List Nat) (K : Nat → Nat) (S : St) : Prop := ∃ (Sz : St) (oo : Nat), PI 10 L K Sz q ∧ XQ L S Sz q oo ∧ gR Sz (gR Sz (gR Sz q 5) 1) 0 = oo
def ZY (q : Nat) (L : List Nat) (K : Nat → Nat) (S : St) : Prop := ∃ Sz : St, PI 11 L K Sz q ∧ YQ L S Sz q
theorem start_K {s : State} {G : va_G} {cy : Nat → ClassId} (hG : ∀ (c : Nat) (q : vw_C), vwCl[c]? = some q → u_Kn s q.1 q.2.1 q.2.2 (G.1 c) (G.2 c)) (h0 : ArrOfT s (cy 0) .byte ∧ va_RA s (cy 0) .byte) (h1 : ArrOfT s (cy 1) .int ∧ va_RA s (cy 1) .int) (h2 : ArrOfT s (cy 2) .long ∧ va_RA s (cy 2) .long) (h3 : ArrOfT s (cy 3) .boolean ∧ va_RA s (cy 3) .boolean) (h4 : ArrOfT s (cy 4) (.object "FranchiseLedger$Business") ∧ va_RA s (cy 4) (.object "FranchiseLedger$Business")) : va_K G vwCl (tys cy) s := by
  refine ⟨hG, fun k q hq => ?_⟩
  match k, hq with
  | 0, hq => cases hq; exact h0
  | 1, hq => cases hq; exact h1
  | 2, hq => cases hq; exact h2
  | 3, hq => cases hq; exact h3
  | 4, hq => cases hq; exact h4
  | k + 5, hq => simp at hq
section
variable {L1 L2 : List Nat} {S1 S2 S3 : St} {o : Nat}
theorem m3_1 (d12 : ∀ a ∈ L1, a ∉ L2) (d3 : ∀ a ∈ L1 ++ L2, a ∉ [o]) {a : Nat} (ha : a ∈ L1) : (∀ i, gI (mS [o] (mS L2 S1 S2) S3) a i = gI S1 a i) ∧ (∀ i, gJ (mS [o] (mS L2 S1 S2) S3) a i = gJ S1 a i) ∧ (∀ i, gR (mS [o] (mS L2 S1 S2) S3) a i = gR S1 a i) ∧ gN (mS [o] (mS L2 S1 S2) S3) a = gN S1 a := by
  obtain ⟨a1, a2, a3, a4⟩ := mS_1 (S1 := mS L2 S1 S2) (S2 := S3) d3 (List.mem_append_left _ ha)
  obtain ⟨b1, b2, b3, b4⟩ := mS_1 (S1 := S1) (S2 := S2) d12 ha
  exact ⟨fun i => (a1 i).trans (b1 i), fun i => (a2 i).trans (b2 i), fun i => (a3 i).trans (b3 i), a4.trans b4⟩
theorem m3_2 (d3 : ∀ a ∈ L1 ++ L2, a ∉ [o]) {a : Nat} (ha : a ∈ L2) : (∀ i, gI (mS [o] (mS L2 S1 S2) S3) a i = gI S2 a i) ∧ (∀ i, gJ (mS [o] (mS L2 S1 S2) S3) a i = gJ S2 a i) ∧ (∀ i, gR (mS [o] (mS L2 S1 S2) S3) a i = gR S2 a i) ∧ gN (mS [o] (mS L2 S1 S2) S3) a = gN S2 a := by
  obtain ⟨a1, a2, a3, a4⟩ := mS_1 (S1 := mS L2 S1 S2) (S2 := S3) d3 (List.mem_append_right _ ha)
  obtain ⟨b1, b2, b3, b4⟩ := mS_2 (S1 := S1) (S2 := S2) ha
  exact ⟨fun i => (a1 i).trans (b1 i), fun i => (a2 i).trans (b2 i), fun i => (a3 i).trans (b3 i), a4.trans b4⟩
end
/-- the two new objects and the place for answers are related -/
theorem start_R {L1 L2 : List Nat} {K1 K2 : Nat → Nat} {S1 S2 : St} {x m o base : Nat} (z1 : ZX x L1 K1 S1) (z2 : ZY m L2 K2 S2) (d12 : ∀ a ∈ L1, a ∉ L2) (d3 : ∀ a ∈ L1 ++ L2, a ∉ [o]) {K : Nat → Nat} {S : St} (hKe : K = mK [o] (mK L2 K1 K2) (fun _ => 14)) (hSe : S = mS [o] (mS L2 S1 S2) ((fun _ _ => 0, fun _ _ => 0, fun _ _ => 0, fun _ => 1) : St)) (hb : ∀ a ∈ (L1 ++ L2) ++ [o], a < base) :
    FO ((L1 ++ L2) ++ [o]) K S [x, m, o] ∧ K x = 10 ∧ K m = 11 ∧ K o = 14 ∧ ∃ ad : Nat → Nat, ad 0 = x ∧ ad 1 = m ∧ ad 2 = o ∧ REL S ad := by
  obtain ⟨Sz1, oo, p1, q1, r1⟩ := z1
  obtain ⟨Sz2, p2, q2⟩ := z2
  have mo : o ∈ [o] := List.mem_singleton.mpr rfl
  have kx : K x = 10 := by rw [hKe, mK_1 d3 (List.mem_append_left _ p1.1), mK_1 d12 p1.1]; exact p1.2.1
  have km : K m = 11 := by rw [hKe, mK_1 d3 (List.mem_append_right _ p2.1), mK_2 p2.1]; exact p2.2.1
  have ko : K o = 14 := by rw [hKe, mK_2 mo]
  have f1 : ∀ a ∈ L1, (∀ i, gI S a i = gI S1 a i) ∧ (∀ i, gJ S a i = gJ S1 a i) ∧ (∀ i, gR S a i = gR S1 a i) ∧ gN S a = gN S1 a := fun a ha => by rw [hSe]; exact m3_1 d12 d3 ha
  have f2 : ∀ a ∈ L2, (∀ i, gI S a i = gI S2 a i) ∧ (∀ i, gJ S a i = gJ S2 a i) ∧ (∀ i, gR S a i = gR S2 a i) ∧ gN S a = gN S2 a := fun a ha => by rw [hSe]; exact m3_2 d3 ha
  have f3 : (∀ i, gI S o i = 0) ∧ (∀ i, gJ S o i = 0) ∧ (∀ i, gR S o i = 0) ∧ gN S o = 1 := by rw [hSe]; exact mS_2 mo
  have e1 : ∀ a ∈ L1, ∀ i, gR S a i = gR Sz1 a i := fun a ha i => ((f1 a ha).2.2.1 i).trans (q1 a i ha).2.2.1
  have e2 : ∀ a ∈ L2, ∀ i, gR S a i = gR Sz2 a i := fun a ha i => ((f2 a ha).2.2.1 i).trans (q2 a i ha).2.2.1
  have hf : FO ((L1 ++ L2) ++ [o]) K S [x, m, o] := by
    have hf0 := FO_app d3 (FO_app d12 (PI_FO p1) (PI_FO p2)) (ar_FO (q := o) (kd := 14) (n := 1) (by decide))
    rw [← hKe] at hf0
    refine FO_cg (fun a ha => ?_) hf0
    rcases List.mem_append.mp ha with ha1 | ha1
    · rcases List.mem_append.mp ha1 with ha2 | ha2
      · obtain ⟨-, -, g3, g4⟩ := m3_1 (S1 := Sz1) (S2 := Sz2) (S3 := ((fun _ _ => 0, fun _ _ => 0, fun _ _ => 0, fun _ => 1) : St)) d12 d3 ha2
        exact ⟨fun i => (e1 a ha2 i).trans (g3 i).symm, ((f1 a ha2).2.2.2.trans (q1 a 0 ha2).2.2.2).trans g4.symm⟩
      · obtain ⟨-, -, g3, g4⟩ := m3_2 (S1 := Sz1) (S2 := Sz2) (S3 := ((fun _ _ => 0, fun _ _ => 0, fun _ _ => 0, fun _ => 1) : St)) d3 ha2
        exact ⟨fun i => (e2 a ha2 i).trans (g3 i).symm, ((f2 a ha2).2.2.2.trans (q2 a 0 ha2).2.2.2).trans g4.symm⟩
    · rw [List.mem_singleton.mp ha1]
      obtain ⟨-, -, g3, g4⟩ := mS_2 (S1 := mS L2 Sz1 Sz2) (S2 := ((fun _ _ => 0, fun _ _ => 0, fun _ _ => 0, fun _ => 1) : St)) mo
      exact ⟨fun i => (f3.2.2.1 i).trans (g3 i).symm, f3.2.2.2.trans g4.symm⟩
  refine ⟨hf, kx, km, ko, adn S x m o base, ?_, ?_, ?_, ?_⟩
  · rw [adn_s (q := (0, [])) (by decide)]; rfl
  · rw [adn_s (q := (1, [])) (by decide)]; rfl
  · rw [adn_s (q := (2, [])) (by decide)]; rfl
  have t := TR_0 (base := base) hf kx km ko f3.2.2.2 hb
  have a0 : adn S x m o base 0 = x := by rw [adn_s (q := (0, [])) (by decide)]; rfl
  have a1 : adn S x m o base 1 = m := by rw [adn_s (q := (1, [])) (by decide)]; rfl
  have a3 : adn S x m o base 3 = gR Sz2 m 0 := by rw [adn_s (q := (1, [0])) (by decide)]; exact e2 m p2.1 0
  have r5 : gR S (adn S x m o base 0) 5 = adn S x m o base 40 := by rw [a0, adn_s (c := 40) (q := (0, [5])) (by decide)]; rfl
  have r6 : gR S (adn S x m o base 0) 6 = adn S x m o base 80 := by rw [a0, adn_s (c := 80) (q := (0, [6])) (by decide)]; rfl
  have r7 : gR S (adn S x m o base 0) 7 = adn S x m o base 22 := by rw [a0, adn_s (c := 22) (q := (0, [7])) (by decide)]; rfl
  have r8 : gR S (adn S x m o base 0) 8 = adn S x m o base 30 := by rw [a0, adn_s (c := 30) (q := (0, [8])) (by decide)]; rfl
  have w := p1.2.2.1.1
  have w5 := w x p1.1 5 (Or.inl (by rw [p1.2.1]; rfl))
  have k5 : K1 (gR Sz1 x 5) = 1 := w5.2.trans (by rw [p1.2.1]; rfl)
  have w1 := w _ w5.1 1 (Or.inl (by rw [k5]; rfl))
  have k1 : K1 (gR Sz1 (gR Sz1 x 5) 1) = 3 := w1.2.trans (by rw [k5]; rfl)
  have w0 := w _ w1.1 0 (Or.inl (by rw [k1]; rfl))
  rw [r1] at w0
  have a52 : adn S x m o base 52 = oo := by
    rw [adn_s (q := (0, [0, 1, 5])) (by decide)]
    show gR S (gR S (gR S x 5) 1) 0 = oo
    rw [e1 x p1.1, e1 _ w5.1, e1 _ w1.1]
    exact r1
  have v0 := p2.2.2.1.1 m p2.1 0 (Or.inl (by rw [p2.2.1]; rfl))
  have inL : ∀ p, (pth p).isSome = true → adn S x m o base p ∈ (L1 ++ L2) ++ [o] := fun p hp => by
    obtain ⟨q, hq⟩ := Option.isSome_iff_exists.mp hp
    exact adn_in hf kx km ko hq
  have hI : ∀ a ∈ (L1 ++ L2) ++ [o], ∀ i, gI S a i = if a = oo ∧ i < 900 then -1 else if (a = x ∧ i = 10) ∨ (a = m ∧ i = 12) then -1 else 0 := by
    intro a ha i
    rcases List.mem_append.mp ha with ha1 | ha1
    · rcases List.mem_append.mp ha1 with ha2 | ha2
      · have nm : a ≠ m := fun z => d12 a ha2 (by rw [z]; exact p2.1)
        rw [(f1 a ha2).1, (q1 a i ha2).1]
        by_cases c1 : a = oo ∧ i < 900
        · rw [if_pos c1, if_pos c1]
        · rw [if_neg c1, if_neg c1]
          by_cases c2 : a = x ∧ i = 10
          · rw [if_pos c2, if_pos (Or.inl c2)]
          · rw [if_neg c2, if_neg (fun z : (a = x ∧ i = 10) ∨ (a = m ∧ i = 12) => z.elim c2 (fun z => nm z.1))]
      · have no : a ≠ oo := fun z => d12 oo w0.1 (by rw [← z]; exact ha2)
        have nx : a ≠ x := fun z => d12 x p1.1 (by rw [← z]; exact ha2)
        rw [(f2 a ha2).1, (q2 a i ha2).1, if_neg (fun z : a = oo ∧ i < 900 => no z.1)]
        by_cases c2 : a = m ∧ i = 12
        · rw [if_pos c2, if_pos (Or.inr c2)]
        · rw [if_neg c2, if_neg (fun z : (a = x ∧ i = 10) ∨ (a = m ∧ i = 12) => z.elim (fun z => nx z.1) c2)]
    · have no : a ≠ oo := fun z => d3 oo (List.mem_append_left _ w0.1) (by rw [← z]; exact ha1)
      have nx : a ≠ x := fun z => d3 x (List.mem_append_left _ p1.1) (by rw [← z]; exact ha1)
      have nm : a ≠ m := fun z => d3 m (List.mem_append_right _ p2.1) (by rw [← z]; exact ha1)
      rw [if_neg (fun z : a = oo ∧ i < 900 => no z.1), if_neg (fun z : (a = x ∧ i = 10) ∨ (a = m ∧ i = 12) => z.elim (fun z => nx z.1) (fun z => nm z.1)), List.mem_singleton.mp ha1]
      exact f3.1 i
  have hJ : ∀ a ∈ (L1 ++ L2) ++ [o], ∀ i, gJ S a i = if a = gR Sz2 m 0 then cbv (fun _ => 0) 0 i else 0 := by
    intro a ha i
    rcases List.mem_append.mp ha with ha1 | ha1
    · rcases List.mem_append.mp ha1 with ha2 | ha2
      · rw [(f1 a ha2).2.1, (q1 a i ha2).2.1, if_neg (fun z : a = gR Sz2 m 0 => d12 a ha2 (by rw [z]; exact v0.1))]
      · rw [(f2 a ha2).2.1, (q2 a i ha2).2.1]
    · rw [if_neg (fun z : a = gR Sz2 m 0 => d3 (gR Sz2 m 0) (List.mem_append_right _ v0.1) (by rw [← z]; exact ha1)), List.mem_singleton.mp ha1]
      exact f3.2.1 i
  generalize adn S x m o base = ad at t r5 r6 r7 r8 a0 a1 a3 a52 inL ⊢
  refine RE_0 t r5 r6 r7 r8 (fun p i hp => ?_) (fun p i hp => ?_)
  · rw [hI _ (inL p hp) i]
    have b1 : (ad p = oo ∧ i < 900) ↔ (p = 52 ∧ i < 900) := by rw [← a52, t.1 p 52]
    have b2 : ((ad p = x ∧ i = 10) ∨ (ad p = m ∧ i = 12)) ↔ ((p = 0 ∧ i = 10) ∨ (p = 1 ∧ i = 12)) := by rw [← a0, ← a1, t.1 p 0, t.1 p 1]
    by_cases c1 : p = 52 ∧ i < 900
    · rw [if_pos (b1.mpr c1), if_pos c1]
    · rw [if_neg (fun z => c1 (b1.mp z)), if_neg c1]
      by_cases c2 : (p = 0 ∧ i = 10) ∨ (p = 1 ∧ i = 12)
      · rw [if_pos (b2.mpr c2), if_pos c2]
      · rw [if_neg (fun z => c2 (b2.mp z)), if_neg c2]
  · rw [hJ _ (inL p hp) i]
    by_cases c1 : p = 3
    · rw [if_pos c1, if_pos (by rw [c1]; exact a3)]
    · rw [if_neg c1, if_neg (fun z : ad p = gR Sz2 m 0 => c1 ((t.1 p 3).mp (z.trans a3.symm)))]
/-! THE CLAIM OUT OF ONE WALK OF THE LAW'S BODY. Your part is whole_start (and what it stands on); all else here is the same for every law, but numbers. -/
def R_law : String := "FranchiseLedgerLaw"
def lw_P (b : Addr) (xs : List Int32) (args : Array Value) (s : State) : Prop := args = #[.ref b] ∧ s.IntsAt b xs ∧ xs.length ≤ 3584 ∧ (Jvm.Cond.and given_1 narrow_1).before args s = true
def lw_Q (_ : Array Value) (s : State) (o : Outcome) (t : State) : Prop := o = .returned (some (.int 1)) ∧ Framed s o t [] 1224 65443
def lw_Z (below : List Frame) (a : Array Value) (s : State) : State → Prop := fun t => ∃ o, t.status = .running ∧ Ended t below o ∧ lw_Q a s o t
/-- the law's own end, with 1 on the stack, nothing written that was there before, its room as the claim has it -/
theorem lw_ret {p : Program} {l : Launch} {e : Env} {s : State} {m : MethodId} {below : List Frame} {meth : Method} {c : Code} {b : Nat} (hx : p.tables.exec = Jvm.exec) (hb : c.code = code) (hr : meth.sig.returnType = ret) (hlocks : meth.locks = false) {pc : Nat} {H : Heap} {ls : Array Slot} (hdg : decode code pc = .ok (.ireturn, 1)) : W p l e room_1 s m #[Value.ref b] below meth c H [] 1224 65443 (lw_Z below #[Value.ref b] s) (F0 m pc ls [.int 1]) := by
  intro T hT X
  obtain ⟨fs, hret, hrun, hended, hW, hframe⟩ := X.leave (v := some (.int 1)) (hlocks := hlocks) (fun h => by rw [hr] at h; cases h)
  have hmeth' : T.vm.method? m = some meth := X.method'
  refine ⟨T.setFrames fs, ?_, .returned (some (.int 1)), hrun, hended, rfl, ⟨_, rfl⟩, hW, hframe⟩
  jvm_step X.here [X.here.top, hx, hb, hdg, hmeth', hr, ret, narrow_b1]
  (try refine ⟨rfl, ?_⟩); (try refine ⟨rfl, ?_⟩)
  first | (intro acts; rw [hret _ acts rfl rfl rfl]) | rw [hret _ _ rfl rfl rfl]
  exact Steps.refl _
/-- what holds at the law's entry: the machine, the code, the tables' words (any of lw_tbl by 'hts w (by decide +kernel)'), the script of L ints xs at the cell b, what the Statement gives of the start (any of its parts by flat_of_before) -/
def lw_At (p : Program) (s : State) (m : MethodId) (meth : Method) (c : Code) (b L : Nat) (xs : Nat → Int32) : Prop :=
  p.tables.exec = Jvm.exec ∧ c.code = code ∧ meth.sig.returnType = ret ∧ c.maxLocals = 8 ∧ s.vm.findClass R_law = some m.cls ∧ (∀ w ∈ lw_tbl, w.before #[Value.ref b] s = true) ∧ va_X b L xs s s.heap ∧ b < s.heap.size ∧ meth.locks = false ∧ (Jvm.Cond.and given_1 narrow_1).before #[Value.ref b] s = true
theorem st_ret {p : Program} {l : Launch} {e : Env} {s : State} {m : MethodId} {below : List Frame} {meth : Method} {c : Code} {b : Nat} {A : Nat → Prop} {G : va_G} {cy : Nat → ClassId} {L : List Nat} {K : Nat → Nat} {ce sl : Nat} {S : St} {vs : List (Option Value)} (hx : p.tables.exec = Jvm.exec) (hb : c.code = code) (hr : meth.sig.returnType = ret) (hlk : meth.locks = false) (hA : ∀ q, A q → s.heap.size ≤ q) (hce : ce ≤ 1224) (hsl : sl ≤ 65443) : Jd (p, l, e, room_1, s, m, #[Value.ref b], below, meth, c, A, G, cy, L, K, ce, sl) 8 (fun (_ : Unit) => lw_Z below #[Value.ref b] s) S 4013 vs [.int 1] (some ()) := by
  intro out hF hw H locs ls hP hD hS hl
  exact va_forget (fun q hq => hA _ (hS.2.2 q hq)) (W.widen hce hsl (lw_ret hx hb hr hlk (dk okd_loop 4 rfl)))
set_option maxHeartbeats 4000000 in
set_option maxRecDepth 100000 in
theorem whole_start {p : Program} {e : Env} {s : State} {m : MethodId} {below : List Frame} {meth : Method} {c : Code} (l : Launch) (hflags : l.flags = flags0) {b L : Nat} {xs : Nat → Int32} (hL : L ≤ 3584) (C0 : lw_At p s m meth c b L xs) : W p l e room_1 s m #[Value.ref b] below meth c s.heap [] 0 0 (lw_Z below #[Value.ref b] s) (entryFrame m ([Value.ref b] : List Value).toArray 8) := by
  obtain ⟨hx, hb, hr, hml, hown, hts0, hX, hbl, hlk, hgv⟩ := C0
  have hown : s.vm.findClass RL = some m.cls := hown
  have hts : ∀ w ∈ TT, w.before #[Value.ref b] s = true := fun w hw => hts0 w (TT_lw hw)
  obtain ⟨A, hAe⟩ : ∃ A : Nat → Prop, A = fun q => s.heap.size ≤ q := ⟨_, rfl⟩
  have hA : ∀ q, s.heap.size ≤ q → A q := fun q h => by rw [hAe]; exact h
  have hA' : ∀ q, A q → s.heap.size ≤ q := fun q h => by rw [hAe] at h; exact h
  have hnA : ∀ a : Nat, a < s.heap.size → ¬ A a := fun a h z => Nat.not_le.mpr h (hA' a z)
  obtain ⟨G, hG⟩ := start_G hts
  obtain ⟨c0, g0⟩ := at_of (hts _ aw_byte) (fun C h => by cases h)
  obtain ⟨c1, g1⟩ := at_of (hts _ aw_int) (fun C h => by cases h)
  obtain ⟨c2, g2⟩ := at_of (hts _ aw_long) (fun C h => by cases h)
  obtain ⟨c3, g3⟩ := at_of (hts _ aw_boolean) (fun C h => by cases h)
  have hAO0 : (Cond.arrayOver (.object "FranchiseLedger$Business")).before #[Value.ref b] s = true := hts0 _ (lw_1 (List.mem_of_getElem? (i := 113) rfl))
  obtain ⟨c4, g4⟩ := ao_of hAO0
  obtain ⟨ct, hct⟩ : ∃ ct : Nat → Nat, ct = fun n => if n = 0 then c0 else if n = 1 then c1 else if n = 2 then c2 else if n = 3 then c3 else c4 := ⟨_, rfl⟩
  obtain ⟨ms, aK, aV, hE⟩ := start_E hts0 hgv hnA ct
  obtain ⟨cy, hcy⟩ : ∃ cy, cy = cyo ct ms aK aV := ⟨_, rfl⟩
  rw [← hcy] at hE
  have hK : va_K G vwCl (tys cy) s := by
    refine start_K hG ?_ ?_ ?_ ?_ ?_
    · rw [show cy 0 = c0 by rw [hcy, hct]; rfl]; exact g0
    · rw [show cy 1 = c1 by rw [hcy, hct]; rfl]; exact g1
    · rw [show cy 2 = c2 by rw [hcy, hct]; rfl]; exact g2
    · rw [show cy 3 = c3 by rw [hcy, hct]; rfl]; exact g3
    · rw [show cy 4 = c4 by rw [hcy, hct]; rfl]; exact g4
  have hAO : va_AO "FranchiseLedger$Business" s := va_AO.of hAO0
  clear hG g0 g1 g2 g3 g4 hct hcy hAe
  have hl := lv_entry ([.ref b]) (n := 8) (Nat.le_of_ble_eq_true rfl)
  rw [lg_entry_eq]
  generalize (lg_sl ([.ref b]) ++ List.replicate (8 - (lg_sl ([.ref b])).length) Slot.unset).toArray = ls at hl ⊢
  have hl : lv_has ls 8 [(0, .ref b)] := hl
  have hS : va_S A s.heap s.heap [] := va_S.rf
  have hP : va_P G vwCl [] s.heap := fun k q h => by simp at h
  have hD : va_D A ([] : va_W) := ⟨fun i j p q h => by simp at h, fun k q h => by simp at h⟩
  refine w_subG (Z := ZX) (Pc := PcX) (Qc := QX11) (ci := 10) hx hb hml hown hts hK hA hE ni_L_8_175 c_X11_init (fun _ _ => PcX_blind) (fun q sz v U hW h => ?_) (fun q B v st oc t h => ?_) hl.1 hP hD hS (dk okd_st 0 rfl) (dk okd_st 1 rfl) (dk okd_st 2 rfl) (Nat.le_of_ble_eq_true rfl) (Nat.le_of_ble_eq_true rfl) (Nat.le_of_ble_eq_true rfl) (Nat.le_of_ble_eq_true rfl) (Nat.le_of_ble_eq_true rfl) (fun x H locs L1 K1 S1 z1 hP hD hS => ?_)
  · obtain ⟨q0, q1, q2, q3, q4, q5⟩ := h
    exact ⟨q0, q1, q2, q3, q4, q5, va_AO.moved hW.alike hAO⟩
  · obtain ⟨⟨h1, Lq, Kq, Sq, Sz, oo, h2, h3, h4, h5, h6⟩, h7⟩ := h
    exact ⟨⟨h1, Lq, Kq, Sq, h2, h3, Sz, oo, h4, h5, h6⟩, h7⟩
  have hP : va_P G vwCl (plw cy L1 K1 S1) H := hP
  have hD : va_D A (plw cy L1 K1 S1) := hD
  refine W.widen (k := 183) (n := 32967) (Nat.le_of_ble_eq_true rfl) (Nat.le_of_ble_eq_true rfl) ?_
  refine lv_astore_n (i := 1) hx hb (dk okd_st 3 rfl) rfl hl (by decide) (lv' := [(1, .ref x), (0, .ref b)]) rfl (fun ls hl => ?_)
  refine w_subG (Z := ZY) (Pc := PcI 11) (Qc := QX12) (ci := 11) hx hb hml hown hts hK hA hE ni_L_176_178 c_X12_init (fun _ _ => PcI_blind) (fun q sz v U hW h => h) (fun q B v st oc t h => ?_) hl.1 hP hD hS (dk okd_st 4 rfl) (dk okd_st 5 rfl) (dk okd_st 6 rfl) (Nat.le_of_ble_eq_true rfl) (Nat.le_of_ble_eq_true rfl) (Nat.le_of_ble_eq_true rfl) (Nat.le_of_ble_eq_true rfl) (Nat.le_of_ble_eq_true rfl) (fun mo H locs L2 K2 S2 z2 hP hD hS => ?_)
  · obtain ⟨⟨h1, Lq, Kq, Sq, Sz, h2, h3, h4, h5⟩, h7⟩ := h
    exact ⟨⟨h1, Lq, Kq, Sq, h2, h3, Sz, h4, h5⟩, h7⟩
  have d12 := pl_disj hD
  refine W.widen (k := 193) (n := 57214) (Nat.le_of_ble_eq_true rfl) (Nat.le_of_ble_eq_true rfl) ?_
  refine lv_astore_n (i := 2) hx hb (dk okd_st 7 rfl) rfl hl (by decide) (lv' := [(2, .ref mo), (1, .ref x), (0, .ref b)]) rfl (fun ls hl => ?_)
  refine lv_iconst (v := 1) hx hb (dk okd_st 8 rfl) (by decide) ?_
  refine va_newa (atype := .long) (ty := .long) (N' := 1) (a0 := (1, .inr (.inl (fun _ => 0)))) hx hb (hts _ aw_long) rfl hK hP hD hS hA (fun cA => rfl) (by decide) (by decide) (Nat.le_of_ble_eq_true rfl) (Nat.le_of_ble_eq_true rfl) (Nat.le_of_ble_eq_true rfl) (dk okd_st 9 rfl) (fun o cA H hK2 hP hD hS => ?_)
  have ecA : cA = cy 2 := cy_eq hK2 (i := 5) (j := 2) rfl rfl (fun C h => by cases h)
  subst ecA
  rw [show ([(o, .inl (cy 2, 1, .inr (.inl (fun _ => 0))))] : va_W) = plw cy [o] (fun _ => 14) ((fun _ _ => 0, fun _ _ => 0, fun _ _ => 0, fun _ => 1) : St) from (ar_pool (cy := cy) (q := o) (kd := 14) (n := 1) (by decide)).symm, ← plw_app d12] at hP hD
  have d3 := pl_disj hD
  rw [← plw_app d3] at hP hD
  clear hK2
  refine lv_astore_n (i := 3) hx hb (dk okd_st 10 rfl) rfl hl (by decide) (lv' := [(3, .ref o), (2, .ref mo), (1, .ref x), (0, .ref b)]) rfl (fun ls hl => ?_)
  refine lv_iconst (v := 0) hx hb (dk okd_st 11 rfl) (by decide) ?_
  refine lv_istore (i := 4) hx hb (dk okd_st 12 rfl) hl (by decide) (lv' := [(4, .int 0), (3, .ref o), (2, .ref mo), (1, .ref x), (0, .ref b)]) rfl (fun ls hl => ?_)
  obtain ⟨K, hKe⟩ : ∃ K, K = mK [o] (mK L2 K1 K2) (fun _ => 14) := ⟨_, rfl⟩
  obtain ⟨S, hSe⟩ : ∃ S, S = mS [o] (mS L2 S1 S2) ((fun _ _ => 0, fun _ _ => 0, fun _ _ => 0, fun _ => 1) : St) := ⟨_, rfl⟩
  rw [← hKe, ← hSe] at hP hD
  have hbs : ∀ a ∈ (L1 ++ L2) ++ [o], a < H.size := fun a ha => by
    obtain ⟨k, hk⟩ := pl_get (cy := cy) (K := K) (S := S) ha
    exact (hP k _ hk).lt
  obtain ⟨hf, kx, km, ko, ad, e0, e1, e2, hrel⟩ := start_R z1 z2 d12 d3 hKe hSe hbs
  have hLA : ∀ q ∈ (L1 ++ L2) ++ [o], A q := fun q hq => by
    obtain ⟨k, hk⟩ := pl_get (cy := cy) (K := K) (S := S) hq
    exact hD.2 k _ hk
  clear z1 z2 d12 d3 hKe hSe hbs
  generalize (L1 ++ L2) ++ [o] = Lp at hP hD hf hLA
  have hlaw := law_ok (ad := ad) (xs := xs) hL 513 0 S 0 600 (by omega) (by omega) (by omega) (by omega) (by omega) hrel
  rw [e0, e1, e2] at hlaw
  have hlv : lvh ls 8 [some (.ref b), some (.ref x), some (.ref mo), some (.ref o), some (.int 0), none, none, none] := by
    refine ⟨hl.1, hl.2.1, fun i v hi => ?_⟩
    match i, hi with
    | 0, hi => cases hi; exact lv_at hl 4 rfl
    | 1, hi => cases hi; exact lv_at hl 3 rfl
    | 2, hi => cases hi; exact lv_at hl 2 rfl
    | 3, hi => cases hi; exact lv_at hl 1 rfl
    | 4, hi => cases hi; exact lv_at hl 0 rfl
    | 5, hi => cases hi
    | 6, hi => cases hi
    | 7, hi => cases hi
    | k + 8, hi => simp at hi
  have hst : l.stackTraces = false := by
    show (!l.flags.contains noTraceFlag) = false
    rw [hflags]
    decide +kernel
  have hfam : Fam (fun n => (p, l, e, room_1, s, m, #[Value.ref b], below, meth, c, A, G, cy, Lp, K, 194 + n, 57215 + 6 * n)) b L xs := ⟨p, l, e, room_1, s, m, #[Value.ref b], below, meth, c, A, G, cy, Lp, K, 194, 57215, fun n => rfl, fun n hn => ⟨hx, hb, hml, hown, hts, hK, hA, hlk, rfl, rfl, hLA, show 194 + n ≤ 1224 by omega, show 57215 + 6 * n ≤ 65443 by omega⟩, hE, hst, hX, hbl, hnA b hbl, (Nat.le_of_ble_eq_true rfl), (Nat.le_of_ble_eq_true rfl)⟩
  have J := c_law (Q := fun (_ : Unit) => lw_Z below #[Value.ref b] s) hfam (show tT (p, l, e, room_1, s, m, #[Value.ref b], below, meth, c, A, G, cy, Lp, K, 194 + 0, 57215 + 6 * 0) x 10 from ⟨(hf.2.2 x (by simp)).1, kx⟩) (show tT (p, l, e, room_1, s, m, #[Value.ref b], below, meth, c, A, G, cy, Lp, K, 194 + 0, 57215 + 6 * 0) mo 11 from ⟨(hf.2.2 mo (by simp)).1, km⟩) (show tT (p, l, e, room_1, s, m, #[Value.ref b], below, meth, c, A, G, cy, Lp, K, 194 + 0, 57215 + 6 * 0) o 14 from ⟨(hf.2.2 o (by simp)).1, ko⟩) (fun S n vs hn => st_ret hx hb hr hlk hA' (by omega) (by omega)) 600 (nI 0) S 0 (by omega)
  refine W.widen (k := 194 + 0) (n := 57215 + 6 * 0) (Nat.le_of_ble_eq_true rfl) (Nat.le_of_ble_eq_true rfl) ?_
  exact J () hlaw hf.1.1 H locs ls hP hD hS hlv
set_option maxHeartbeats 4000000 in
theorem lw_walk (l : Launch) (hflags : l.flags = flags0) (b : Addr) (xs : List Int32) : MetFree l x (headSpec (Jvm.Cond.code x code maxLocals ret :: tables_1) room_1) (lw_P b xs) (fun _ _ _ _ _ => True) lw_Q := by
  refine MetFree.of_bodyS (code := code) (maxLocals := maxLocals) (ret := ret) (by decide) ?_ ?_
  · intro args s m h hn
    obtain ⟨meth, c, h1, h2, h3, h4, h5, h6, -, -⟩ := Cond.code_spec hn (atoms_spec (ws := Jvm.Cond.code x code maxLocals ret :: tables_1) h _ List.mem_cons_self)
    exact ⟨meth, c, h1, h2, h3, h4, h5, h6⟩
  · intro p e s m args below meth c s₁ B hml0 hP _
    obtain ⟨rfl, hx, hbd, hgv⟩ := hP
    obtain ⟨scr, harrAt, hlist, hof, hsmall⟩ := hx
    obtain ⟨hcb, hkn, -, -⟩ := State.arrayAt?_spec harrAt
    have hown : s.vm.findClass R_law = some m.cls := findClass_of_methodNamed B.named
    have hts0 : ∀ c ∈ (Jvm.Cond.code x code maxLocals ret :: tables_1), c.before #[Value.ref b] s = true := atoms_spec (ws := Jvm.Cond.code x code maxLocals ret :: tables_1) B.pre
    have hts : ∀ w ∈ lw_tbl, w.before #[Value.ref b] s = true := k2_hts_sels lw_privs (fun w hw => hts0 w (List.mem_cons_of_mem _ hw)) lw_privs_ok
    have hml : c.maxLocals = 8 := B.maxLocals_eq (hts0 _ List.mem_cons_self)
    have X₀ : Stand p l e room_1 s m #[Value.ref b] below meth c s₁ [] 0 0 := Stand.of_body B
    have hh0 : s₁.heap = s.heap := by rw [B.state]; rfl
    have hsz : scr.slots.size = xs.length := by rw [← Array.length_toList, hlist, List.length_map]
    have hval : ∀ j : Nat, j < xs.length → scr.slots[j]? = some (.int (xs.getD j 0)) := fun j hj => by
      rw [← Array.getElem?_toList, hlist]
      simp [hj]
    have hbl : b < s.heap.size := (Array.getElem?_eq_some_iff.mp hcb).1
    have hX : va_X b xs.length (fun j => xs.getD j 0) s s.heap := ⟨scr, hcb, hof, hkn, hsz, hval⟩
    have K : W p l e room_1 s m #[Value.ref b] below meth c s₁.heap [] 0 0 (lw_Z below #[Value.ref b] s) (entryFrame m ([Value.ref b] : List Value).toArray 8) := by
      rw [hh0]
      exact whole_start l hflags hbd ⟨B.exec, B.bytes, B.returns, hml, hown, hts, hX, hbl, B.notSynchronized, hgv⟩
    obtain ⟨t, a1, o, b1, b2, b3⟩ := K s₁ rfl X₀
    exact ⟨t, o, a1, b1, b2, b3⟩
theorem lw_pre_spec {args : Array Value} {s : State} (h : (Jvm.Cond.and given_1 narrow_1).before args s = true) (hr : rest_1_c.before args s = true) : ∃ (b : Addr) (xs : List Int32), lw_P b xs args s := by
  have hs := flat_of_before _ h
  have hq := flat_of_before _ hr
  have hc : (Cond.count 1).before args s = true := hs _ (by decide +kernel)
  have harr : (Cond.arrayOf (.arg 0) .int).before args s = true := hs _ (by decide +kernel)
  have hle : (Cond.le (.length (.arg 0)) (.int 3584)).before args s = true := hs _ (by decide +kernel)
  have hlen : (Cond.isInt (.length (.arg 0))).before args s = true := hq _ (by decide +kernel)
  have hall : (Cond.all (.arg 0) (.isInt (.elem (.arg 0) (.index 0)))).before args s = true := hq _ (by decide +kernel)
  obtain ⟨b, xs, hb, hx⟩ := State.ints_of_pre rfl harr hlen hall
  have hsm : xs.length < 2 ^ 31 := hx.choose_spec.2.2.2
  have hev : (Term.length (.arg 0)).eval args s none [] s = some (.int xs.length.toInt32) := hx.length_eval hb
  have hv := Cond.le_ints hev (show (Term.int 3584).eval args s none [] s = some (.int 3584) from rfl)
  have hd : xs.length.toInt32 ≤ 3584 := by
    simpa [Cond.before, Cond.holds, hv] using hle
  have hN : xs.length ≤ 3584 := (Int32.ofNat_le_ofNat hsm (by decide)).mp (show Int32.ofNat xs.length ≤ Int32.ofNat 3584 from hd)
  exact ⟨b, xs, Cond.one_arg hc (show args[0]? = some (.ref b) from hb), hx, hN, h⟩
theorem lw_comes (l : Launch) (hflags : l.flags = flags0) : Comes l x (Jvm.Cond.code x code maxLocals ret :: tables_1) room_1 (fun tb e args s => Calls_1 tb e args s ∧ rest_1 tb e args s ∧ Pre_1 tb e args s)
    (fun _ _ args s o t => lw_Q args s o t) := by
  intro p e ha hc hk s m args below hf hfit hheap happ hpre
  obtain ⟨b, xs, hP⟩ := lw_pre_spec hpre.2.2 hpre.2.1
  obtain ⟨k, o, h1, h2, h3, hQ⟩ := lw_walk l hflags b xs p e ha hc hk s m args below hf ((Spec.applies_iff_loose hf).mp happ).1 hP trivial
  exact ⟨k, o, h1, h2, h3, hQ⟩
theorem lw_frame {s t : State} {o : Outcome} {args : Array Value} (h : Framed s o t [] 1224 65443) :
    Framed s o t (fieldLocs frame_1_writes args s ++ arrayLocs frame_1_arrays args s ++ staticLocs frame_1_statics s) 1224 65443 := h
theorem lw_limb (L : Cond) (hL : ∀ (args : Array Value) (s t : State), L.after args s (.returned (some (.int 1))) t = true) :
    ArmFor flags0 classFile x code maxLocals ret World_1 tables_1 room_1 Calls_1 rest_1 Pre_1
      (fun tb e a s o t => postC L tb e a s o t ∧ Framed s o t (fieldLocs frame_1_writes a s ++ arrayLocs frame_1_arrays a s ++ staticLocs frame_1_statics s) 1224 65443) := by
  intro l hflags _ _ p e ha hc hk s m args below hf hfit hheap happ hpre
  obtain ⟨k, o, h1, h2, h3, rfl, hF⟩ := lw_comes l hflags p e ha hc hk s m args below hf hfit hheap happ hpre
  exact ⟨k, _, h1, h2, h3, hL args s _, lw_frame hF⟩
theorem i_vc : Claimed_1_1 ∧ Claimed_1_2 := ⟨lw_limb limb_1_1 (fun args s t => by simp [limb_1_1, Cond.after, Cond.holds, Cond.value]), lw_limb limb_1_2 (fun args s t => Cond.after_iff.mpr (by
  first | (rw [show limb_1_2 = Cond.eq .result (.int 1) from rfl, Cond.eq_ints (x := 1) (y := 1) rfl rfl]; simp; done) | (simp [limb_1_2, Cond.value, Term.eval]; done)))⟩
