/-! texts: a String constant is its number i < nS -/
def cV (C : CT) (n : Nat) : Nat := cyC C (101 + 2 * n)
def tk {β : Type} (i : Nat) (k : Option β) : Option β := if i < nS then k else none
def slen (i : Nat) : Int32 := nI (lenS.getD i 0)
def sld {β : Type} (i : Nat) (x : Int32) (k : Int32 → Option β) : Option β := if i < nS then (if x < 0 ∨ lenS.getD i 0 ≤ x.toNatClampNeg then none else k ((bytS.getD i []).getD x.toNatClampNeg 0)) else none
def nrw {β : Type} (ty : FieldType) (v : Int32) (k : Option β) : Option β := if narrow ty (.int v) = .int v then k else none
def SL (own : String) (idx : Nat) (n d : String) : Prop := Cond.fieldLink own idx "java/lang/String" n d ∈ TT
section
variable {α : Type} {C : CT} {cc : ByteArray} {nL : Nat} {own : String} {fr lo : Nat} {Q : α → State → Prop} {S : St} {vs : List (Option Value)} {st : List Value} {pc i idx : Nat} {vof : α → Option Value} {sof : α → St}
theorem s_ldcS (X : Cx C cc nL own fr lo) (E : cE C) {text : String} (n : Nat) (hr : (own, idx, text, 100 + 2 * n) ∈ SR) (d : decode cc pc = .ok (.ldc idx, 2)) {f : Option α} (kk : Jd C nL Q S (pc + 2) vs (.ref (cS C n) :: st) f) : Jd C nL Q S pc vs st f := by
  obtain ⟨p, l, e, R, s, m, args, below, meth, c, A, G, cy, L, K, ce, sl⟩ := C
  intro out hF hw H locs ls hP hD hS hl
  exact va_ldcS X.1 X.2.1 X.2.2.2.1 (E.2.2.1 _ hr) d (kk out hF hw H locs ls hP hD hS hl)
theorem s_sval (X : Cx C cc nL own fr lo) (E : cE C) (fl : SL own idx "value" "[B") (d : decode cc pc = .ok (.getfield idx, 3)) {f : Option α} (kk : Jd C nL Q S (pc + 3) vs (.ref (cV C i) :: st) f) : Jd C nL Q S pc vs (.ref (cS C i) :: st) (tk i f) := by
  obtain ⟨p, l, e, R, s, m, args, below, meth, c, A, G, cy, L, K, ce, sl⟩ := C
  intro out hF hw H locs ls hP hD hS hl
  simp only [tk] at hF
  split at hF
  · rename_i hi
    exact vk_getf X.1 X.2.1 (E.2.1.1 i hi).2.2.1 hS X.2.2.2.1 (X.2.2.2.2.1 _ fl) (fun _ h => h) d (kk out hF hw H locs ls hP hD hS hl)
  · cases hF
theorem s_scod (X : Cx C cc nL own fr lo) (E : cE C) (fl : SL own idx "coder" "B") (d : decode cc pc = .ok (.getfield idx, 3)) {f : Option α} (kk : Jd C nL Q S (pc + 3) vs (.int 0 :: st) f) : Jd C nL Q S pc vs (.ref (cS C i) :: st) (tk i f) := by
  obtain ⟨p, l, e, R, s, m, args, below, meth, c, A, G, cy, L, K, ce, sl⟩ := C
  intro out hF hw H locs ls hP hD hS hl
  simp only [tk] at hF
  split at hF
  · rename_i hi
    exact vk_getf X.1 X.2.1 (E.2.1.1 i hi).2.1 hS X.2.2.2.1 (X.2.2.2.2.1 _ fl) (fun _ h => h) d (kk out hF hw H locs ls hP hD hS hl)
  · cases hF
theorem s_salen (X : Cx C cc nL own fr lo) (E : cE C) (d : decode cc pc = .ok (.arraylength, 1)) {f : Int32 → Option α} (kk : ∀ v, Jd C nL Q S (pc + 1) vs (.int v :: st) (f v)) : Jd C nL Q S pc vs (.ref (cV C i) :: st) (tk i (lt (slen i) f)) := by
  obtain ⟨p, l, e, R, s, m, args, below, meth, c, A, G, cy, L, K, ce, sl⟩ := C
  intro out hF hw H locs ls hP hD hS hl
  simp only [tk] at hF
  split at hF
  · rename_i hi
    exact va_tlen X.1 X.2.1 (E.2.1.1 i hi).2.2.2 hS (v := slen i) rfl d (kk _ out hF hw H locs ls hP hD hS hl)
  · cases hF
theorem s_sbald (X : Cx C cc nL own fr lo) (E : cE C) {x : Int32} (d : decode cc pc = .ok (.baload, 1)) {f : Int32 → Option α} (kk : ∀ v, Jd C nL Q S (pc + 1) vs (.int v :: st) (f v)) : Jd C nL Q S pc vs (.int x :: .ref (cV C i) :: st) (sld i x f) := by
  obtain ⟨p, l, e, R, s, m, args, below, meth, c, A, G, cy, L, K, ce, sl⟩ := C
  intro out hF hw H locs ls hP hD hS hl
  simp only [sld] at hF
  split at hF
  · rename_i hi
    split at hF
    · cases hF
    · rename_i hin
      exact va_tb X.1 X.2.1 (E.2.1.1 i hi).2.2.2 hS hin rfl d (kk _ out hF hw H locs ls hP hD hS hl)
  · cases hF
theorem s_gcs (X : Cx C cc nL own fr lo) (E : cE C) (fl : SL own idx "COMPACT_STRINGS" "Z") (d : decode cc pc = .ok (.getstatic idx, 3)) {f : Option α} (kk : Jd C nL Q S (pc + 3) vs (.int 1 :: st) f) : Jd C nL Q S pc vs st f := by
  obtain ⟨p, l, e, R, s, m, args, below, meth, c, A, G, cy, L, K, ce, sl⟩ := C
  intro out hF hw H locs ls hP hD hS hl
  exact va_gets X.1 X.2.1 E.2.2.2.2.2.1 hS X.2.2.2.1 (X.2.2.2.2.1 _ fl) (fun _ h => h) d (kk out hF hw H locs ls hP hD hS hl)
theorem s_gsio (X : Cx C cc nL own fr lo) (E : cE C) (fl : Cond.fieldLink own idx "jdk/internal/util/Preconditions" "SIOOBE_FORMATTER" "Ljava/util/function/BiFunction;" ∈ TT) (d : decode cc pc = .ok (.getstatic idx, 3)) {f : Option α} (kk : ∀ v : Value, v.category = 1 → Jd C nL Q S (pc + 3) vs (v :: st) f) : Jd C nL Q S pc vs st f := by
  obtain ⟨p, l, e, R, s, m, args, below, meth, c, A, G, cy, L, K, ce, sl⟩ := C
  intro out hF hw H locs ls hP hD hS hl
  rcases E.2.2.2.2.2.2.2.2.2 with h | ⟨t, h⟩
  · exact va_gets X.1 X.2.1 h hS X.2.2.2.1 (X.2.2.2.2.1 _ fl) (fun _ h => h) d (kk _ rfl out hF hw H locs ls hP hD hS hl)
  · exact va_gets X.1 X.2.1 h hS X.2.2.2.1 (X.2.2.2.2.1 _ fl) (fun _ h => h) d (kk _ rfl out hF hw H locs ls hP hD hS hl)
theorem s_i2c (X : Cx C cc nL own fr lo) (d : decode cc pc = .ok (.i2c, 1)) {x : Int32} {f : Option α} (kk : Jd C nL Q S (pc + 1) vs (.int (x.toUInt32 % 65536).toInt32 :: st) f) : Jd C nL Q S pc vs (.int x :: st) f := by
  obtain ⟨p, l, e, R, s, m, args, below, meth, c, A, G, cy, L, K, ce, sl⟩ := C
  intro out hF hw H locs ls hP hD hS hl
  exact lv_i2c X.1 X.2.1 d rfl (kk out hF hw H locs ls hP hD hS hl)
theorem s_nret (X : Cx C cc nL own fr lo) {ty : FieldType} (hr : rT C (some ty)) (d : decode cc pc = .ok (.ireturn, 1)) {v : Int32} {o : α} (hv : vof o = some (.int v)) (hs : sof o = S) : Jd C nL (QJ C vof sof) S pc vs [.int v] (nrw ty v (some o)) := by
  obtain ⟨p, l, e, R, s, m, args, below, meth, c, A, G, cy, L, K, ce, sl⟩ := C
  intro out hF hw H locs ls hP hD hS hl
  simp only [nrw] at hF
  split at hF
  · rename_i hn
    cases hF
    exact W.zret X.1 X.2.1 hr hn (fun t ht hW => ⟨⟨by rw [hv], by rw [ht, hs]; exact hP, by rw [hs]; exact hD, by rw [hs]; exact hw⟩, hS.F ht⟩) hS.2.2 d X.2.2.2.2.2.2.2.1
  · cases hF
end
section
variable {α α' : Type} {C : CT} {cc : ByteArray} {nL : Nat} {own : String} {fr lo : Nat} {Q : α → State → Prop} {S : St} {vs : List (Option Value)} {st0 : List Value} {pc idx i : Nat} {vof : α' → Option Value} {sof : α' → St} {y : MethodName} {cc' : ByteArray} {nL' fr' lo' n : Nat} {ret' : Option FieldType} {F' : Option α'} {k : α' → Option α} {ta : List (Nat × Nat)} {ar : (Nat → ClassId) → List Value}
/-- a call on a text -/
theorem s_callT (X : Cx C cc nL own fr lo) (E : cE C) {As rest : List Value} (mv : MV own idx y cc' nL' ret' n) (ct : Ct y cc' nL' ret' fr' lo' ar ta S F' vof sof) (har : ar (cyC C) = .ref (cS C i) :: As) (hta : ∀ q ∈ ta, tT C q.1 q.2) (hc : y.cls = "java/lang/String") (hn : As.length = n) (hst : st0 = As.reverse ++ .ref (cS C i) :: rest) (hcat : (rest.map fun v => v.category).sum ≤ 8) (hfr : fr' + 1 ≤ fr) (hlo : 8 + (nL' + 11) + lo' ≤ lo) (d : decode cc pc = .ok (.invokevirtual idx, 3)) {st' : α' → List Value} (hs : ∀ o, (vof o).toList ++ rest = st' o) (kk : ∀ o, Jd C nL Q (sof o) (pc + 3) vs (st' o) (k o)) : Jd C nL Q S pc vs st0 (tk i (cl F' k)) := by
  obtain ⟨p, l, e, R, s, m, args, below, meth, c, A, G, cy, L, K, ce, sl⟩ := C
  intro out hF hw H locs ls hP hD hS hl
  simp only [tk] at hF
  split at hF
  · rename_i hi
    cases F' with
    | none => cases hF
    | some o =>
      have hM := ct l G cy L K H.size o rfl hta
      have har : ar cy = _ := har
      rw [har] at hM
      obtain ⟨hx, hb, hml, hown, hts, hK, hA, hlk, hRf, hRl, hL, hce, hsl⟩ := id X
      obtain ⟨m1, m2, m3, m4, m5, m6⟩ := mv
      have hA1 : ∀ q, va_A (plw cy L K S) H.size q → A q := by
        intro q hq
        rcases hq with hq | hq
        · exact hL q (pl_A hq)
        · exact hA q (Nat.le_trans hS.1 hq)
      have hrc := vk_recv E.2.1 hi hS
      rw [← hc] at hrc
      refine run_go (S := S) hS hA hL (va_runV (As := As) (rest := rest) (C := y.cls) (bytes := cc') (maxL := nL') (ret := ret') (Ts := TT) (own := own) (n := n) ⟨hx, hb, hml, hown, hts⟩ hM ⟨callB_of (Ts := TT) (ws' := TT) n hts (gd_T m5) rfl rfl rfl (hts _ m4) (hts _ m1) m6 ⟨by rw [hRf]; exact hfr, by rw [hRl]; exact hlo⟩, hts _ m2, hts _ m3⟩ ⟨KP_blind, hrc, fun U hU hW => ⟨rfl, by rw [hU], by rw [hU]; exact hP, va_K.moved hW.alike hK, hD.weaken (fun _ _ _ _ => trivial), hw, EX_call E hS hU hW hA1⟩⟩ rfl hn hl.1 hst (lv_room hcat) d ⟨hce, hsl⟩) (fun H1 locs1 hP1 hD1 hS1 hw1 => ?_)
      rw [hs o]
      exact kk o out hF hw1 H1 locs1 ls hP1 hD1 hS1 hl
  · cases hF
end
theorem xpw {l : List Cond} (h : l.all (fun w => decide (w ∈ lw_tbl) && (goodWord w || isN w)) = true) : ∀ w ∈ l, w ∈ TT ∨ w ∈ NW := by
  intro w hw
  have h1 := List.all_eq_true.mp h w hw
  simp only [Bool.and_eq_true, decide_eq_true_eq, Bool.or_eq_true] at h1
  rcases h1.2 with h2 | h2
  · exact Or.inl (List.mem_filter.mpr ⟨h1.1, h2⟩)
  · exact Or.inr (List.mem_filter.mpr ⟨h1.1, h2⟩)
