def cE (C : CT) : Prop := match C with
  | (_, _, _, _, s, _, _, _, _, _, A, _, cy, _, _, _, _) => EX cy A s
def rT (C : CT) (ret : Option FieldType) : Prop := match C with
  | (_, _, _, _, _, _, _, _, meth, _, _, _, _, _, _, _, _) => meth.sig.returnType = ret
/-! tables of the other instructions -/
def okD (cc : ByteArray) (q : Nat × Instr × Nat) : Bool := decide (decode cc q.1 = .ok (q.2.1, q.2.2))
theorem dk {cc : ByteArray} {tb : List (Nat × Instr × Nat)} (ok : tb.all (okD cc) = true) (i : Nat) {pc : Nat} {ins : Instr} {len : Nat} (h : tb[i]? = some (pc, ins, len)) : decode cc pc = .ok (ins, len) := by
  have h1 := List.all_eq_true.mp ok _ (List.mem_of_getElem? h)
  simp only [okD] at h1
  exact of_decide_eq_true h1
/-! fields -/
def FL (own : String) (idx ci k t : Nat) : Prop := ∃ (Cn : String) (Tn : u_T) (Nn : Nat), vwCl[ci]? = some (Cn, Tn, Nn) ∧ k < Nn ∧ (∀ w ∈ u_ws Cn Tn Nn, w ∈ TT) ∧ Cond.fieldLink own idx Cn (Tn k).2.1 (Tn k).2.2.1 ∈ TT ∧ (Tn k).1 = Cn ∧ (lay ci)[k]? = some t ∧ ci < 12
def FP (own : String) (idx ci k t : Nat) : Prop := ∃ (Cn : String) (Tn : u_T) (Nn : Nat) (ty0 : Nat → FieldType) (ty : FieldType), vwCl[ci]? = some (Cn, Tn, Nn) ∧ k < Nn ∧ (∀ w ∈ u_ws Cn Tn Nn, w ∈ TT) ∧ Cond.fieldLink own idx Cn (Tn k).2.1 (Tn k).2.2.1 ∈ TT ∧ (Tn k).1 = Cn ∧ (lay ci)[k]? = some t ∧ ci < 12 ∧ (∀ j, j < Nn → parseFieldDescriptor (Tn j).2.2.1 = some (ty0 j)) ∧ (∀ a, a < Nn → ∀ b, b < Nn → a ≠ b → (Tn a).2.1 ≠ (Tn b).2.1) ∧ (Tn k).2.2.2 = false ∧ parseFieldDescriptor (Tn k).2.2.1 = some ty ∧ (t = 0 → ty = .int) ∧ (t = 1 → ty = .long) ∧ (t = 2 → ∀ x : Nat, narrow ty (.ref x) = .ref x ∧ fits ty (.ref x) = true)
theorem ent_obj {cy : Nat → ClassId} {K : Nat → Nat} {S : St} {a ci : Nat} (h : K a = ci) (hc : ci < 12) : ent cy K S a = .inr (ci, fvs S a 0 (lay ci)) := by
  subst h
  simp only [ent]
  rw [if_neg (by omega), if_neg (by omega), if_neg (by omega), if_neg (by omega), if_neg (by omega)]
theorem WT_ref {L : List Nat} {K : Nat → Nat} {S : St} {a ci k : Nat} (hw : WT L K S) (ha : a ∈ L) (hk : K a = ci) (hl : (lay ci)[k]? = some 2) : gR S a k ∈ L ∧ K (gR S a k) = rt ci k := by
  subst hk
  exact hw a ha k (Or.inl hl)
section
variable {α : Type} {C : CT} {cc : ByteArray} {nL : Nat} {own : String} {fr lo : Nat} {Q : α → State → Prop} {S : St} {vs : List (Option Value)} {st : List Value} {pc a ci k idx : Nat}
theorem s_getI (X : Cx C cc nL own fr lo) (fl : FL own idx ci k 0) (ta : tT C a ci) (d : decode cc pc = .ok (.getfield idx, 3)) {f : Int32 → Option α} (kk : ∀ v, Jd C nL Q S (pc + 3) vs (.int v :: st) (f v)) : Jd C nL Q S pc vs (.ref a :: st) (lt (gI S a k) f) := by
  obtain ⟨p, l, e, R, s, m, args, below, meth, c, A, G, cy, L, K, ce, sl⟩ := C
  intro out hF hw H locs ls hP hD hS hl
  obtain ⟨Cn, Tn, Nn, hc, hk, hin, hlink, hsame, hlay, hci⟩ := fl
  obtain ⟨q0, hq⟩ := pl_get (cy := cy) (K := K) (S := S) ta.1
  have he := ent_obj (cy := cy) (S := S) ta.2 hci
  rw [he] at hq
  have hv := fvs_at S a (lay ci) 0 k 0 hlay
  rw [Nat.zero_add] at hv
  exact va_get (D := G) X.1 X.2.1 X.2.2.2.2.1 hin X.2.2.2.1 X.2.2.2.2.2.1 hP q0 hq hc k hk (X.2.2.2.2.1 _ hlink) (fun x h => by rw [← hsame]; exact h) hv d (kk _ out hF hw H locs ls hP hD hS hl)
theorem s_getJ (X : Cx C cc nL own fr lo) (fl : FL own idx ci k 1) (ta : tT C a ci) (d : decode cc pc = .ok (.getfield idx, 3)) {f : Int64 → Option α} (kk : ∀ v, Jd C nL Q S (pc + 3) vs (.long v :: st) (f v)) : Jd C nL Q S pc vs (.ref a :: st) (lt (gJ S a k) f) := by
  obtain ⟨p, l, e, R, s, m, args, below, meth, c, A, G, cy, L, K, ce, sl⟩ := C
  intro out hF hw H locs ls hP hD hS hl
  obtain ⟨Cn, Tn, Nn, hc, hk, hin, hlink, hsame, hlay, hci⟩ := fl
  obtain ⟨q0, hq⟩ := pl_get (cy := cy) (K := K) (S := S) ta.1
  have he := ent_obj (cy := cy) (S := S) ta.2 hci
  rw [he] at hq
  have hv := fvs_at S a (lay ci) 0 k 1 hlay
  rw [Nat.zero_add] at hv
  exact va_get (D := G) X.1 X.2.1 X.2.2.2.2.1 hin X.2.2.2.1 X.2.2.2.2.2.1 hP q0 hq hc k hk (X.2.2.2.2.1 _ hlink) (fun x h => by rw [← hsame]; exact h) hv d (kk _ out hF hw H locs ls hP hD hS hl)
theorem s_getR (X : Cx C cc nL own fr lo) (fl : FL own idx ci k 2) (ta : tT C a ci) (d : decode cc pc = .ok (.getfield idx, 3)) {f : Nat → Option α} (kk : ∀ v, tT C v (rt ci k) → Jd C nL Q S (pc + 3) vs (.ref v :: st) (f v)) : Jd C nL Q S pc vs (.ref a :: st) (lt (gR S a k) f) := by
  obtain ⟨p, l, e, R, s, m, args, below, meth, c, A, G, cy, L, K, ce, sl⟩ := C
  intro out hF hw H locs ls hP hD hS hl
  obtain ⟨Cn, Tn, Nn, hc, hk, hin, hlink, hsame, hlay, hci⟩ := fl
  obtain ⟨q0, hq⟩ := pl_get (cy := cy) (K := K) (S := S) ta.1
  have he := ent_obj (cy := cy) (S := S) ta.2 hci
  rw [he] at hq
  have hv := fvs_at S a (lay ci) 0 k 2 hlay
  rw [Nat.zero_add] at hv
  exact va_get (D := G) X.1 X.2.1 X.2.2.2.2.1 hin X.2.2.2.1 X.2.2.2.2.2.1 hP q0 hq hc k hk (X.2.2.2.2.1 _ hlink) (fun x h => by rw [← hsame]; exact h) hv d (kk _ (WT_ref hw ta.1 ta.2 hlay) out hF hw H locs ls hP hD hS hl)
theorem ent_putI {cy : Nat → ClassId} {K : Nat → Nat} {k v} (h : K a = ci) (hc : ci < 12) (hlay : (lay ci)[k]? = some 0) : (Sum.inr (ci, (fvs S a 0 (lay ci)).set k (.int v)) : va_E) = ent cy K (uI S a k v) a := by
  rw [ent_obj (S := uI S a k v) h hc, fvs_set (S' := uI S a k v) (.int v) (lay ci) 0 k 0 hlay (by simp [fv, gI, uI, up2]) (fun j u _ hne => by simp [fv, gI, gJ, gR, uI, up2, hne])]
theorem ent_putJ {cy : Nat → ClassId} {K : Nat → Nat} {k v} (h : K a = ci) (hc : ci < 12) (hlay : (lay ci)[k]? = some 1) : (Sum.inr (ci, (fvs S a 0 (lay ci)).set k (.long v)) : va_E) = ent cy K (uJ S a k v) a := by
  rw [ent_obj (S := uJ S a k v) h hc, fvs_set (S' := uJ S a k v) (.long v) (lay ci) 0 k 1 hlay (by simp [fv, gJ, uJ, up2]) (fun j u _ hne => by simp [fv, gI, gJ, gR, uJ, up2, hne])]
theorem ent_putR {cy : Nat → ClassId} {K : Nat → Nat} {k v} (h : K a = ci) (hc : ci < 12) (hlay : (lay ci)[k]? = some 2) : (Sum.inr (ci, (fvs S a 0 (lay ci)).set k (.ref v)) : va_E) = ent cy K (uR S a k v) a := by
  rw [ent_obj (S := uR S a k v) h hc, fvs_set (S' := uR S a k v) (.ref v) (lay ci) 0 k 2 hlay (by simp [fv, gR, uR, up2]) (fun j u _ hne => by simp [fv, gI, gJ, gR, uR, up2, hne])]
theorem s_putI (X : Cx C cc nL own fr lo) (fl : FP own idx ci k 0) (ta : tT C a ci) (d : decode cc pc = .ok (.putfield idx, 3)) {v : Int32} {f : St → Option α} (kk : ∀ S', Jd C nL Q S' (pc + 3) vs st (f S')) : Jd C nL Q S pc vs (.int v :: .ref a :: st) (lt (uI S a k v) f) := by
  obtain ⟨p, l, e, R, s, m, args, below, meth, c, A, G, cy, L, K, ce, sl⟩ := C
  intro out hF hw H locs ls hP hD hS hl
  obtain ⟨Cn, Tn, Nn, ty0, ty, hc, hk, hin, hlink, hsame, hlay, hci, hty, hnm, hfin, hd, ht0, ht1, ht2⟩ := fl
  obtain ⟨q0, hq⟩ := pl_get (cy := cy) (K := K) (S := S) ta.1
  have he := ent_obj (cy := cy) (S := S) ta.2 hci
  have hq2 := hq
  rw [he] at hq2
  have e1 := ht0 rfl
  subst e1
  refine va_put (D := G) X.1 X.2.1 X.2.2.2.2.1 hin ty0 hty hnm X.2.2.2.1 X.2.2.2.2.2.1 hP hD hS q0 hq2 hc k hk (X.2.2.2.2.1 _ hlink) (fun x h => by rw [← hsame]; exact h) hfin hd rfl rfl (by rw [fvs_len]; exact (List.getElem?_eq_some_iff.mp hlay).1) d (fun H1 locs1 hP1 hD1 hS1 => ?_)
  rw [pl_set hD ta.1 hq (ent_putI ta.2 hci hlay) (fun b hb => ent_uI S k v hb)] at hP1 hD1
  exact kk _ out hF hw H1 locs1 ls hP1 hD1 hS1 hl
theorem s_putJ (X : Cx C cc nL own fr lo) (fl : FP own idx ci k 1) (ta : tT C a ci) (d : decode cc pc = .ok (.putfield idx, 3)) {v : Int64} {f : St → Option α} (kk : ∀ S', Jd C nL Q S' (pc + 3) vs st (f S')) : Jd C nL Q S pc vs (.long v :: .ref a :: st) (lt (uJ S a k v) f) := by
  obtain ⟨p, l, e, R, s, m, args, below, meth, c, A, G, cy, L, K, ce, sl⟩ := C
  intro out hF hw H locs ls hP hD hS hl
  obtain ⟨Cn, Tn, Nn, ty0, ty, hc, hk, hin, hlink, hsame, hlay, hci, hty, hnm, hfin, hd, ht0, ht1, ht2⟩ := fl
  obtain ⟨q0, hq⟩ := pl_get (cy := cy) (K := K) (S := S) ta.1
  have he := ent_obj (cy := cy) (S := S) ta.2 hci
  have hq2 := hq
  rw [he] at hq2
  have e1 := ht1 rfl
  subst e1
  refine va_put (D := G) X.1 X.2.1 X.2.2.2.2.1 hin ty0 hty hnm X.2.2.2.1 X.2.2.2.2.2.1 hP hD hS q0 hq2 hc k hk (X.2.2.2.2.1 _ hlink) (fun x h => by rw [← hsame]; exact h) hfin hd rfl rfl (by rw [fvs_len]; exact (List.getElem?_eq_some_iff.mp hlay).1) d (fun H1 locs1 hP1 hD1 hS1 => ?_)
  rw [pl_set hD ta.1 hq (ent_putJ ta.2 hci hlay) (fun b hb => ent_uJ S k v hb)] at hP1 hD1
  exact kk _ out hF hw H1 locs1 ls hP1 hD1 hS1 hl
theorem s_putR (X : Cx C cc nL own fr lo) (fl : FP own idx ci k 2) (ta : tT C a ci) (d : decode cc pc = .ok (.putfield idx, 3)) {v : Nat} (tv : tT C v (rt ci k)) {f : St → Option α} (kk : ∀ S', Jd C nL Q S' (pc + 3) vs st (f S')) : Jd C nL Q S pc vs (.ref v :: .ref a :: st) (lt (uR S a k v) f) := by
  obtain ⟨p, l, e, R, s, m, args, below, meth, c, A, G, cy, L, K, ce, sl⟩ := C
  intro out hF hw H locs ls hP hD hS hl
  obtain ⟨Cn, Tn, Nn, ty0, ty, hc, hk, hin, hlink, hsame, hlay, hci, hty, hnm, hfin, hd, ht0, ht1, ht2⟩ := fl
  obtain ⟨q0, hq⟩ := pl_get (cy := cy) (K := K) (S := S) ta.1
  have he := ent_obj (cy := cy) (S := S) ta.2 hci
  have hq2 := hq
  rw [he] at hq2
  have e1 := ht2 rfl v
  refine va_put (D := G) X.1 X.2.1 X.2.2.2.2.1 hin ty0 hty hnm X.2.2.2.1 X.2.2.2.2.2.1 hP hD hS q0 hq2 hc k hk (X.2.2.2.2.1 _ hlink) (fun x h => by rw [← hsame]; exact h) hfin hd e1.1 e1.2 (by rw [fvs_len]; exact (List.getElem?_eq_some_iff.mp hlay).1) d (fun H1 locs1 hP1 hD1 hS1 => ?_)
  rw [pl_set hD ta.1 hq (ent_putR ta.2 hci hlay) (fun b hb => ent_uR S k v hb)] at hP1 hD1
  have hkk : K a = ci := ta.2
  exact kk _ out hF (WT_uR hw (by rw [hkk]; exact tv)) H1 locs1 ls hP1 hD1 hS1 hl
end
