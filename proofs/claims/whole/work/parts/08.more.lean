/-! arrays, branches, numbers -/
theorem ent_arr {cy : Nat → ClassId} {K : Nat → Nat} {S : St} {a : Nat} : (K a = 12 → ent cy K S a = .inl (cy 0, gN S a, .inl (S.1 a))) ∧ (K a = 13 → ent cy K S a = .inl (cy 1, gN S a, .inl (S.1 a))) ∧ (K a = 14 → ent cy K S a = .inl (cy 2, gN S a, .inr (.inl (S.2.1 a)))) ∧ (K a = 15 → ent cy K S a = .inl (cy 3, gN S a, .inl (S.1 a))) ∧ (K a = 16 → ent cy K S a = .inl (cy 4, gN S a, .inr (.inr (.inr (.inr (fun i => some (S.2.2.1 a i))))))) := by
  refine ⟨fun h => ?_, fun h => ?_, fun h => ?_, fun h => ?_, fun h => ?_⟩ <;> simp [ent, h]
theorem row_uI (S : St) (a i : Nat) (v : Int32) : (uI S a i v).1 a = upd (S.1 a) i v := by funext j; simp [uI, up2, upd]
theorem row_uJ (S : St) (a i : Nat) (v : Int64) : (uJ S a i v).2.1 a = vp_updL (S.2.1 a) i v := by funext j; simp [uJ, up2, vp_updL]
section
variable {α : Type} {C : CT} {cc : ByteArray} {nL : Nat} {own : String} {fr lo : Nat} {Q : α → State → Prop} {S : St} {vs : List (Option Value)} {st : List Value} {pc a tgt : Nat}
theorem s_bald (X : Cx C cc nL own fr lo) (ta : tT C a 12) (d : decode cc pc = .ok (.baload, 1)) {i : Int32} {f : Int32 → Option α} (kk : ∀ v, Jd C nL Q S (pc + 1) vs (.int v :: st) (f v)) : Jd C nL Q S pc vs (.int i :: .ref a :: st) (ldI S a i f) := by
  obtain ⟨p, l, e, R, s, m, args, below, meth, c, A, G, cy, L, K, ce, sl⟩ := C
  intro out hF hw H locs ls hP hD hS hl
  obtain ⟨q0, hq⟩ := pl_get (cy := cy) (K := K) (S := S) ta.1
  rw [ent_arr.1 ta.2] at hq
  simp only [ldI] at hF
  split at hF
  · cases hF
  · rename_i hin
    exact va_bald X.1 X.2.1 X.2.2.2.2.2.1 hP q0 0 hq rfl hin d (kk _ out hF hw H locs ls hP hD hS hl)
theorem s_iald (X : Cx C cc nL own fr lo) (ta : tT C a 13) (d : decode cc pc = .ok (.iaload, 1)) {i : Int32} {f : Int32 → Option α} (kk : ∀ v, Jd C nL Q S (pc + 1) vs (.int v :: st) (f v)) : Jd C nL Q S pc vs (.int i :: .ref a :: st) (ldI S a i f) := by
  obtain ⟨p, l, e, R, s, m, args, below, meth, c, A, G, cy, L, K, ce, sl⟩ := C
  intro out hF hw H locs ls hP hD hS hl
  obtain ⟨q0, hq⟩ := pl_get (cy := cy) (K := K) (S := S) ta.1
  rw [ent_arr.2.1 ta.2] at hq
  simp only [ldI] at hF
  split at hF
  · cases hF
  · rename_i hin
    exact va_iald X.1 X.2.1 X.2.2.2.2.2.1 hP q0 1 hq rfl hin d (kk _ out hF hw H locs ls hP hD hS hl)
theorem s_lald (X : Cx C cc nL own fr lo) (ta : tT C a 14) (d : decode cc pc = .ok (.laload, 1)) {i : Int32} {f : Int64 → Option α} (kk : ∀ v, Jd C nL Q S (pc + 1) vs (.long v :: st) (f v)) : Jd C nL Q S pc vs (.int i :: .ref a :: st) (ldJ S a i f) := by
  obtain ⟨p, l, e, R, s, m, args, below, meth, c, A, G, cy, L, K, ce, sl⟩ := C
  intro out hF hw H locs ls hP hD hS hl
  obtain ⟨q0, hq⟩ := pl_get (cy := cy) (K := K) (S := S) ta.1
  rw [ent_arr.2.2.1 ta.2] at hq
  simp only [ldJ] at hF
  split at hF
  · cases hF
  · rename_i hin
    exact va_lald X.1 X.2.1 X.2.2.2.2.2.1 hP q0 2 hq rfl hin d (kk _ out hF hw H locs ls hP hD hS hl)
theorem s_zald (X : Cx C cc nL own fr lo) (ta : tT C a 15) (d : decode cc pc = .ok (.baload, 1)) {i : Int32} {f : Int32 → Option α} (kk : ∀ v, Jd C nL Q S (pc + 1) vs (.int v :: st) (f v)) : Jd C nL Q S pc vs (.int i :: .ref a :: st) (ldI S a i f) := by
  obtain ⟨p, l, e, R, s, m, args, below, meth, c, A, G, cy, L, K, ce, sl⟩ := C
  intro out hF hw H locs ls hP hD hS hl
  obtain ⟨q0, hq⟩ := pl_get (cy := cy) (K := K) (S := S) ta.1
  rw [ent_arr.2.2.2.1 ta.2] at hq
  simp only [ldI] at hF
  split at hF
  · cases hF
  · rename_i hin
    exact va_zald X.1 X.2.1 X.2.2.2.2.2.1 hP q0 3 hq rfl hin d (kk _ out hF hw H locs ls hP hD hS hl)
theorem s_aald (X : Cx C cc nL own fr lo) (ta : tT C a 16) (d : decode cc pc = .ok (.aaload, 1)) {i : Int32} {f : Nat → Option α} (kk : ∀ v, tT C v 1 → Jd C nL Q S (pc + 1) vs (.ref v :: st) (f v)) : Jd C nL Q S pc vs (.int i :: .ref a :: st) (ldR S a i f) := by
  obtain ⟨p, l, e, R, s, m, args, below, meth, c, A, G, cy, L, K, ce, sl⟩ := C
  intro out hF hw H locs ls hP hD hS hl
  obtain ⟨q0, hq⟩ := pl_get (cy := cy) (K := K) (S := S) ta.1
  rw [ent_arr.2.2.2.2 ta.2] at hq
  simp only [ldR] at hF
  split at hF
  · cases hF
  · rename_i hin
    have hk : K a = 16 := ta.2
    have ht := hw a ta.1 i.toNatClampNeg (Or.inr ⟨hk, Nat.not_le.mp fun q => hin (Or.inr q)⟩)
    rw [hk] at ht
    exact va_aldq X.1 X.2.1 X.2.2.2.2.2.1 hP q0 4 hq rfl hin d (kk _ ht out hF hw H locs ls hP hD hS hl)
theorem s_bast (X : Cx C cc nL own fr lo) (ta : tT C a 12) (d : decode cc pc = .ok (.bastore, 1)) {i : Int32} {v : Int32} {f : St → Option α} (kk : ∀ S', Jd C nL Q S' (pc + 1) vs st (f S')) : Jd C nL Q S pc vs (.int v :: .int i :: .ref a :: st) (stI S a i (vp_nar .byte v) f) := by
  obtain ⟨p, l, e, R, s, m, args, below, meth, c, A, G, cy, L, K, ce, sl⟩ := C
  intro out hF hw H locs ls hP hD hS hl
  obtain ⟨q0, hq⟩ := pl_get (cy := cy) (K := K) (S := S) ta.1
  have hq2 := hq
  have ha : ent cy K S a = _ := ent_arr.1 ta.2
  rw [ha] at hq2
  simp only [stI] at hF
  split at hF
  · cases hF
  · rename_i hin
    refine va_bast X.1 X.2.1 X.2.2.2.2.2.1 hP hD hS q0 0 hq2 rfl hin d (fun H1 locs1 hP1 hD1 hS1 => ?_)
    rw [pl_set (S' := uI S a i.toNatClampNeg (vp_nar .byte v)) hD ta.1 hq (by rw [ent_arr.1 ta.2, row_uI]; rfl) (fun b hb => ent_uI S _ _ hb)] at hP1 hD1
    exact kk _ out hF hw H1 locs1 ls hP1 hD1 hS1 hl
theorem s_iast (X : Cx C cc nL own fr lo) (ta : tT C a 13) (d : decode cc pc = .ok (.iastore, 1)) {i : Int32} {v : Int32} {f : St → Option α} (kk : ∀ S', Jd C nL Q S' (pc + 1) vs st (f S')) : Jd C nL Q S pc vs (.int v :: .int i :: .ref a :: st) (stI S a i v f) := by
  obtain ⟨p, l, e, R, s, m, args, below, meth, c, A, G, cy, L, K, ce, sl⟩ := C
  intro out hF hw H locs ls hP hD hS hl
  obtain ⟨q0, hq⟩ := pl_get (cy := cy) (K := K) (S := S) ta.1
  have hq2 := hq
  have ha : ent cy K S a = _ := ent_arr.2.1 ta.2
  rw [ha] at hq2
  simp only [stI] at hF
  split at hF
  · cases hF
  · rename_i hin
    refine va_iast X.1 X.2.1 X.2.2.2.2.2.1 hP hD hS q0 1 hq2 rfl hin d (fun H1 locs1 hP1 hD1 hS1 => ?_)
    rw [pl_set (S' := uI S a i.toNatClampNeg v) hD ta.1 hq (by rw [ent_arr.2.1 ta.2, row_uI]; rfl) (fun b hb => ent_uI S _ _ hb)] at hP1 hD1
    exact kk _ out hF hw H1 locs1 ls hP1 hD1 hS1 hl
theorem s_last (X : Cx C cc nL own fr lo) (ta : tT C a 14) (d : decode cc pc = .ok (.lastore, 1)) {i : Int32} {v : Int64} {f : St → Option α} (kk : ∀ S', Jd C nL Q S' (pc + 1) vs st (f S')) : Jd C nL Q S pc vs (.long v :: .int i :: .ref a :: st) (stJ S a i v f) := by
  obtain ⟨p, l, e, R, s, m, args, below, meth, c, A, G, cy, L, K, ce, sl⟩ := C
  intro out hF hw H locs ls hP hD hS hl
  obtain ⟨q0, hq⟩ := pl_get (cy := cy) (K := K) (S := S) ta.1
  have hq2 := hq
  have ha : ent cy K S a = _ := ent_arr.2.2.1 ta.2
  rw [ha] at hq2
  simp only [stJ] at hF
  split at hF
  · cases hF
  · rename_i hin
    refine va_last X.1 X.2.1 X.2.2.2.2.2.1 hP hD hS q0 2 hq2 rfl hin d (fun H1 locs1 hP1 hD1 hS1 => ?_)
    rw [pl_set (S' := uJ S a i.toNatClampNeg v) hD ta.1 hq (by rw [ent_arr.2.2.1 ta.2, row_uJ]; rfl) (fun b hb => ent_uJ S _ _ hb)] at hP1 hD1
    exact kk _ out hF hw H1 locs1 ls hP1 hD1 hS1 hl
theorem s_zast (X : Cx C cc nL own fr lo) (ta : tT C a 15) (d : decode cc pc = .ok (.bastore, 1)) {i : Int32} {v : Int32} {f : St → Option α} (kk : ∀ S', Jd C nL Q S' (pc + 1) vs st (f S')) : Jd C nL Q S pc vs (.int v :: .int i :: .ref a :: st) (stI S a i (vp_nar .boolean v) f) := by
  obtain ⟨p, l, e, R, s, m, args, below, meth, c, A, G, cy, L, K, ce, sl⟩ := C
  intro out hF hw H locs ls hP hD hS hl
  obtain ⟨q0, hq⟩ := pl_get (cy := cy) (K := K) (S := S) ta.1
  have hq2 := hq
  have ha : ent cy K S a = _ := ent_arr.2.2.2.1 ta.2
  rw [ha] at hq2
  simp only [stI] at hF
  split at hF
  · cases hF
  · rename_i hin
    refine va_zast X.1 X.2.1 X.2.2.2.2.2.1 hP hD hS q0 3 hq2 rfl hin d (fun H1 locs1 hP1 hD1 hS1 => ?_)
    rw [pl_set (S' := uI S a i.toNatClampNeg (vp_nar .boolean v)) hD ta.1 hq (by rw [ent_arr.2.2.2.1 ta.2, row_uI]; rfl) (fun b hb => ent_uI S _ _ hb)] at hP1 hD1
    exact kk _ out hF hw H1 locs1 ls hP1 hD1 hS1 hl
theorem s_alen12 (X : Cx C cc nL own fr lo) (ta : tT C a 12) (d : decode cc pc = .ok (.arraylength, 1)) {f : Int32 → Option α} (kk : ∀ v, Jd C nL Q S (pc + 1) vs (.int v :: st) (f v)) : Jd C nL Q S pc vs (.ref a :: st) (lt (nI (gN S a)) f) := by
  obtain ⟨p, l, e, R, s, m, args, below, meth, c, A, G, cy, L, K, ce, sl⟩ := C
  intro out hF hw H locs ls hP hD hS hl
  obtain ⟨q0, hq⟩ := pl_get (cy := cy) (K := K) (S := S) ta.1
  rw [ent_arr.1 ta.2] at hq
  exact va_alen X.1 X.2.1 X.2.2.2.2.2.1 hP q0 0 hq rfl (v := nI (gN S a)) rfl d (kk _ out hF hw H locs ls hP hD hS hl)
theorem s_alen13 (X : Cx C cc nL own fr lo) (ta : tT C a 13) (d : decode cc pc = .ok (.arraylength, 1)) {f : Int32 → Option α} (kk : ∀ v, Jd C nL Q S (pc + 1) vs (.int v :: st) (f v)) : Jd C nL Q S pc vs (.ref a :: st) (lt (nI (gN S a)) f) := by
  obtain ⟨p, l, e, R, s, m, args, below, meth, c, A, G, cy, L, K, ce, sl⟩ := C
  intro out hF hw H locs ls hP hD hS hl
  obtain ⟨q0, hq⟩ := pl_get (cy := cy) (K := K) (S := S) ta.1
  rw [ent_arr.2.1 ta.2] at hq
  exact va_alen X.1 X.2.1 X.2.2.2.2.2.1 hP q0 1 hq rfl (v := nI (gN S a)) rfl d (kk _ out hF hw H locs ls hP hD hS hl)
theorem s_alen14 (X : Cx C cc nL own fr lo) (ta : tT C a 14) (d : decode cc pc = .ok (.arraylength, 1)) {f : Int32 → Option α} (kk : ∀ v, Jd C nL Q S (pc + 1) vs (.int v :: st) (f v)) : Jd C nL Q S pc vs (.ref a :: st) (lt (nI (gN S a)) f) := by
  obtain ⟨p, l, e, R, s, m, args, below, meth, c, A, G, cy, L, K, ce, sl⟩ := C
  intro out hF hw H locs ls hP hD hS hl
  obtain ⟨q0, hq⟩ := pl_get (cy := cy) (K := K) (S := S) ta.1
  rw [ent_arr.2.2.1 ta.2] at hq
  exact va_alen X.1 X.2.1 X.2.2.2.2.2.1 hP q0 2 hq rfl (v := nI (gN S a)) rfl d (kk _ out hF hw H locs ls hP hD hS hl)
theorem s_alen15 (X : Cx C cc nL own fr lo) (ta : tT C a 15) (d : decode cc pc = .ok (.arraylength, 1)) {f : Int32 → Option α} (kk : ∀ v, Jd C nL Q S (pc + 1) vs (.int v :: st) (f v)) : Jd C nL Q S pc vs (.ref a :: st) (lt (nI (gN S a)) f) := by
  obtain ⟨p, l, e, R, s, m, args, below, meth, c, A, G, cy, L, K, ce, sl⟩ := C
  intro out hF hw H locs ls hP hD hS hl
  obtain ⟨q0, hq⟩ := pl_get (cy := cy) (K := K) (S := S) ta.1
  rw [ent_arr.2.2.2.1 ta.2] at hq
  exact va_alen X.1 X.2.1 X.2.2.2.2.2.1 hP q0 3 hq rfl (v := nI (gN S a)) rfl d (kk _ out hF hw H locs ls hP hD hS hl)
theorem s_alen16 (X : Cx C cc nL own fr lo) (ta : tT C a 16) (d : decode cc pc = .ok (.arraylength, 1)) {f : Int32 → Option α} (kk : ∀ v, Jd C nL Q S (pc + 1) vs (.int v :: st) (f v)) : Jd C nL Q S pc vs (.ref a :: st) (lt (nI (gN S a)) f) := by
  obtain ⟨p, l, e, R, s, m, args, below, meth, c, A, G, cy, L, K, ce, sl⟩ := C
  intro out hF hw H locs ls hP hD hS hl
  obtain ⟨q0, hq⟩ := pl_get (cy := cy) (K := K) (S := S) ta.1
  rw [ent_arr.2.2.2.2 ta.2] at hq
  exact va_alen X.1 X.2.1 X.2.2.2.2.2.1 hP q0 4 hq rfl (v := nI (gN S a)) rfl d (kk _ out hF hw H locs ls hP hD hS hl)
theorem s_icmp_eq (X : Cx C cc nL own fr lo) {off : Int} (d : decode cc pc = .ok (.if_icmp .eq off, 3)) (ht : (pc : Int) + off = (tgt : Int)) {x y : Int32} {f1 f2 : Option α} (k1 : Jd C nL Q S tgt vs st f1) (k2 : Jd C nL Q S (pc + 3) vs st f2) : Jd C nL Q S pc vs (.int y :: .int x :: st) (if x = y then f1 else f2) := by
  obtain ⟨p, l, e, R, s, m, args, below, meth, c, A, G, cy, L, K, ce, sl⟩ := C
  intro out hF hw H locs ls hP hD hS hl
  exact lv_icmp_eq X.1 X.2.1 d ht (fun q => k1 out (by rw [if_pos q] at hF; exact hF) hw H locs ls hP hD hS hl) (fun q => k2 out (by rw [if_neg q] at hF; exact hF) hw H locs ls hP hD hS hl)
theorem s_if_eq (X : Cx C cc nL own fr lo) {off : Int} (d : decode cc pc = .ok (.ifCond .eq off, 3)) (ht : (pc : Int) + off = (tgt : Int)) {x : Int32} {f1 f2 : Option α} (k1 : Jd C nL Q S tgt vs st f1) (k2 : Jd C nL Q S (pc + 3) vs st f2) : Jd C nL Q S pc vs (.int x :: st) (if x = 0 then f1 else f2) := by
  obtain ⟨p, l, e, R, s, m, args, below, meth, c, A, G, cy, L, K, ce, sl⟩ := C
  intro out hF hw H locs ls hP hD hS hl
  exact lv_if_eq X.1 X.2.1 d ht (fun q => k1 out (by rw [if_pos q] at hF; exact hF) hw H locs ls hP hD hS hl) (fun q => k2 out (by rw [if_neg q] at hF; exact hF) hw H locs ls hP hD hS hl)
theorem s_icmp_ne (X : Cx C cc nL own fr lo) {off : Int} (d : decode cc pc = .ok (.if_icmp .ne off, 3)) (ht : (pc : Int) + off = (tgt : Int)) {x y : Int32} {f1 f2 : Option α} (k1 : Jd C nL Q S tgt vs st f2) (k2 : Jd C nL Q S (pc + 3) vs st f1) : Jd C nL Q S pc vs (.int y :: .int x :: st) (if x = y then f1 else f2) := by
  obtain ⟨p, l, e, R, s, m, args, below, meth, c, A, G, cy, L, K, ce, sl⟩ := C
  intro out hF hw H locs ls hP hD hS hl
  exact lv_icmp_ne X.1 X.2.1 d ht (fun q => k1 out (by rw [if_neg q] at hF; exact hF) hw H locs ls hP hD hS hl) (fun q => k2 out (by rw [if_pos q] at hF; exact hF) hw H locs ls hP hD hS hl)
theorem s_if_ne (X : Cx C cc nL own fr lo) {off : Int} (d : decode cc pc = .ok (.ifCond .ne off, 3)) (ht : (pc : Int) + off = (tgt : Int)) {x : Int32} {f1 f2 : Option α} (k1 : Jd C nL Q S tgt vs st f2) (k2 : Jd C nL Q S (pc + 3) vs st f1) : Jd C nL Q S pc vs (.int x :: st) (if x = 0 then f1 else f2) := by
  obtain ⟨p, l, e, R, s, m, args, below, meth, c, A, G, cy, L, K, ce, sl⟩ := C
  intro out hF hw H locs ls hP hD hS hl
  exact lv_if_ne X.1 X.2.1 d ht (fun q => k1 out (by rw [if_neg q] at hF; exact hF) hw H locs ls hP hD hS hl) (fun q => k2 out (by rw [if_pos q] at hF; exact hF) hw H locs ls hP hD hS hl)
theorem s_icmp_lt (X : Cx C cc nL own fr lo) {off : Int} (d : decode cc pc = .ok (.if_icmp .lt off, 3)) (ht : (pc : Int) + off = (tgt : Int)) {x y : Int32} {f1 f2 : Option α} (k1 : Jd C nL Q S tgt vs st f1) (k2 : Jd C nL Q S (pc + 3) vs st f2) : Jd C nL Q S pc vs (.int y :: .int x :: st) (if x < y then f1 else f2) := by
  obtain ⟨p, l, e, R, s, m, args, below, meth, c, A, G, cy, L, K, ce, sl⟩ := C
  intro out hF hw H locs ls hP hD hS hl
  exact lv_icmp_lt X.1 X.2.1 d ht (fun q => k1 out (by rw [if_pos q] at hF; exact hF) hw H locs ls hP hD hS hl) (fun q => k2 out (by rw [if_neg q] at hF; exact hF) hw H locs ls hP hD hS hl)
theorem s_if_lt (X : Cx C cc nL own fr lo) {off : Int} (d : decode cc pc = .ok (.ifCond .lt off, 3)) (ht : (pc : Int) + off = (tgt : Int)) {x : Int32} {f1 f2 : Option α} (k1 : Jd C nL Q S tgt vs st f1) (k2 : Jd C nL Q S (pc + 3) vs st f2) : Jd C nL Q S pc vs (.int x :: st) (if x < 0 then f1 else f2) := by
  obtain ⟨p, l, e, R, s, m, args, below, meth, c, A, G, cy, L, K, ce, sl⟩ := C
  intro out hF hw H locs ls hP hD hS hl
  exact lv_if_lt X.1 X.2.1 d ht (fun q => k1 out (by rw [if_pos q] at hF; exact hF) hw H locs ls hP hD hS hl) (fun q => k2 out (by rw [if_neg q] at hF; exact hF) hw H locs ls hP hD hS hl)
theorem s_icmp_ge (X : Cx C cc nL own fr lo) {off : Int} (d : decode cc pc = .ok (.if_icmp .ge off, 3)) (ht : (pc : Int) + off = (tgt : Int)) {x y : Int32} {f1 f2 : Option α} (k1 : Jd C nL Q S tgt vs st f1) (k2 : Jd C nL Q S (pc + 3) vs st f2) : Jd C nL Q S pc vs (.int y :: .int x :: st) (if y ≤ x then f1 else f2) := by
  obtain ⟨p, l, e, R, s, m, args, below, meth, c, A, G, cy, L, K, ce, sl⟩ := C
  intro out hF hw H locs ls hP hD hS hl
  exact lv_icmp_ge X.1 X.2.1 d ht (fun q => k1 out (by rw [if_pos q] at hF; exact hF) hw H locs ls hP hD hS hl) (fun q => k2 out (by rw [if_neg q] at hF; exact hF) hw H locs ls hP hD hS hl)
theorem s_if_ge (X : Cx C cc nL own fr lo) {off : Int} (d : decode cc pc = .ok (.ifCond .ge off, 3)) (ht : (pc : Int) + off = (tgt : Int)) {x : Int32} {f1 f2 : Option α} (k1 : Jd C nL Q S tgt vs st f1) (k2 : Jd C nL Q S (pc + 3) vs st f2) : Jd C nL Q S pc vs (.int x :: st) (if 0 ≤ x then f1 else f2) := by
  obtain ⟨p, l, e, R, s, m, args, below, meth, c, A, G, cy, L, K, ce, sl⟩ := C
  intro out hF hw H locs ls hP hD hS hl
  exact lv_if_ge X.1 X.2.1 d ht (fun q => k1 out (by rw [if_pos q] at hF; exact hF) hw H locs ls hP hD hS hl) (fun q => k2 out (by rw [if_neg q] at hF; exact hF) hw H locs ls hP hD hS hl)
theorem s_icmp_gt (X : Cx C cc nL own fr lo) {off : Int} (d : decode cc pc = .ok (.if_icmp .gt off, 3)) (ht : (pc : Int) + off = (tgt : Int)) {x y : Int32} {f1 f2 : Option α} (k1 : Jd C nL Q S tgt vs st f1) (k2 : Jd C nL Q S (pc + 3) vs st f2) : Jd C nL Q S pc vs (.int y :: .int x :: st) (if y < x then f1 else f2) := by
  obtain ⟨p, l, e, R, s, m, args, below, meth, c, A, G, cy, L, K, ce, sl⟩ := C
  intro out hF hw H locs ls hP hD hS hl
  exact lv_icmp_gt X.1 X.2.1 d ht (fun q => k1 out (by rw [if_pos q] at hF; exact hF) hw H locs ls hP hD hS hl) (fun q => k2 out (by rw [if_neg q] at hF; exact hF) hw H locs ls hP hD hS hl)
theorem s_if_gt (X : Cx C cc nL own fr lo) {off : Int} (d : decode cc pc = .ok (.ifCond .gt off, 3)) (ht : (pc : Int) + off = (tgt : Int)) {x : Int32} {f1 f2 : Option α} (k1 : Jd C nL Q S tgt vs st f1) (k2 : Jd C nL Q S (pc + 3) vs st f2) : Jd C nL Q S pc vs (.int x :: st) (if 0 < x then f1 else f2) := by
  obtain ⟨p, l, e, R, s, m, args, below, meth, c, A, G, cy, L, K, ce, sl⟩ := C
  intro out hF hw H locs ls hP hD hS hl
  exact lv_if_gt X.1 X.2.1 d ht (fun q => k1 out (by rw [if_pos q] at hF; exact hF) hw H locs ls hP hD hS hl) (fun q => k2 out (by rw [if_neg q] at hF; exact hF) hw H locs ls hP hD hS hl)
theorem s_icmp_le (X : Cx C cc nL own fr lo) {off : Int} (d : decode cc pc = .ok (.if_icmp .le off, 3)) (ht : (pc : Int) + off = (tgt : Int)) {x y : Int32} {f1 f2 : Option α} (k1 : Jd C nL Q S tgt vs st f1) (k2 : Jd C nL Q S (pc + 3) vs st f2) : Jd C nL Q S pc vs (.int y :: .int x :: st) (if x ≤ y then f1 else f2) := by
  obtain ⟨p, l, e, R, s, m, args, below, meth, c, A, G, cy, L, K, ce, sl⟩ := C
  intro out hF hw H locs ls hP hD hS hl
  exact lv_icmp_le X.1 X.2.1 d ht (fun q => k1 out (by rw [if_pos q] at hF; exact hF) hw H locs ls hP hD hS hl) (fun q => k2 out (by rw [if_neg q] at hF; exact hF) hw H locs ls hP hD hS hl)
theorem s_if_le (X : Cx C cc nL own fr lo) {off : Int} (d : decode cc pc = .ok (.ifCond .le off, 3)) (ht : (pc : Int) + off = (tgt : Int)) {x : Int32} {f1 f2 : Option α} (k1 : Jd C nL Q S tgt vs st f1) (k2 : Jd C nL Q S (pc + 3) vs st f2) : Jd C nL Q S pc vs (.int x :: st) (if x ≤ 0 then f1 else f2) := by
  obtain ⟨p, l, e, R, s, m, args, below, meth, c, A, G, cy, L, K, ce, sl⟩ := C
  intro out hF hw H locs ls hP hD hS hl
  exact lv_if_le X.1 X.2.1 d ht (fun q => k1 out (by rw [if_pos q] at hF; exact hF) hw H locs ls hP hD hS hl) (fun q => k2 out (by rw [if_neg q] at hF; exact hF) hw H locs ls hP hD hS hl)
theorem cmp_eq (x y : Int64) : lg_cmp x y = 0 ↔ x = y := by
  unfold lg_cmp
  by_cases h1 : x > y
  · rw [if_pos h1]
    refine ⟨fun h => absurd h (by decide), fun h => ?_⟩
    subst h
    exact absurd h1 (Int64.lt_irrefl)
  · rw [if_neg h1]
    by_cases h2 : x = y
    · simp [h2]
    · rw [if_neg h2]
      exact ⟨fun h => absurd h (by decide), fun h => absurd h h2⟩
theorem cmp_lt (x y : Int64) : lg_cmp x y < 0 ↔ x < y := by
  unfold lg_cmp
  by_cases h1 : x > y
  · rw [if_pos h1]
    exact ⟨fun h => absurd h (by decide), fun h => absurd h (Int64.lt_asymm h1)⟩
  · rw [if_neg h1]
    by_cases h2 : x = y
    · subst h2
      simp
    · rw [if_neg h2]
      refine ⟨fun _ => ?_, fun _ => by decide⟩
      have h3 : x.toInt ≤ y.toInt := Int.not_lt.mp (fun q => h1 (Int64.lt_iff_toInt_lt.mpr q))
      have h4 : x.toInt ≠ y.toInt := fun q => h2 (Int64.toInt_inj.mp q)
      exact Int64.lt_iff_toInt_lt.mpr (by omega)
theorem cmp_gt (x y : Int64) : 0 < lg_cmp x y ↔ y < x := by
  unfold lg_cmp
  by_cases h1 : x > y
  · rw [if_pos h1]
    exact ⟨fun _ => h1, fun _ => by decide⟩
  · rw [if_neg h1]
    by_cases h2 : x = y
    · rw [if_pos h2]; exact ⟨fun h => absurd h (by decide), fun h => absurd h h1⟩
    · rw [if_neg h2]; exact ⟨fun h => absurd h (by decide), fun h => absurd h h1⟩
theorem cmp_ge (x y : Int64) : 0 ≤ lg_cmp x y ↔ y ≤ x := by
  have h1 := cmp_lt x y
  constructor
  · intro h
    have : ¬ x < y := fun q => absurd (h1.mpr q) (by simpa using h)
    exact Int64.le_iff_toInt_le.mpr (Int.not_lt.mp (fun q => this (Int64.lt_iff_toInt_lt.mpr q)))
  · intro h
    have : ¬ lg_cmp x y < 0 := fun q => by have := Int64.lt_iff_toInt_lt.mp (h1.mp q); have := Int64.le_iff_toInt_le.mp h; omega
    simpa using this
theorem cmp_le (x y : Int64) : lg_cmp x y ≤ 0 ↔ x ≤ y := by
  have h1 := cmp_gt x y
  constructor
  · intro h
    have : ¬ y < x := fun q => absurd (h1.mpr q) (by simpa using h)
    exact Int64.le_iff_toInt_le.mpr (Int.not_lt.mp (fun q => this (Int64.lt_iff_toInt_lt.mpr q)))
  · intro h
    have : ¬ 0 < lg_cmp x y := fun q => by have := Int64.lt_iff_toInt_lt.mp (h1.mp q); have := Int64.le_iff_toInt_le.mp h; omega
    simpa using this
theorem s_lif_eq (X : Cx C cc nL own fr lo) {off : Int} (d : decode cc pc = .ok (.ifCond .eq off, 3)) (ht : (pc : Int) + off = (tgt : Int)) {x y : Int64} {f1 f2 : Option α} (k1 : Jd C nL Q S tgt vs st f1) (k2 : Jd C nL Q S (pc + 3) vs st f2) : Jd C nL Q S pc vs (.int (lg_cmp x y) :: st) (if x = y then f1 else f2) := by
  obtain ⟨p, l, e, R, s, m, args, below, meth, c, A, G, cy, L, K, ce, sl⟩ := C
  intro out hF hw H locs ls hP hD hS hl
  exact lv_if_eq X.1 X.2.1 d ht (fun q => k1 out (by rw [if_pos ((cmp_eq x y).mp q)] at hF; exact hF) hw H locs ls hP hD hS hl) (fun q => k2 out (by rw [if_neg (fun z => q ((cmp_eq x y).mpr z))] at hF; exact hF) hw H locs ls hP hD hS hl)
theorem s_lif_ne (X : Cx C cc nL own fr lo) {off : Int} (d : decode cc pc = .ok (.ifCond .ne off, 3)) (ht : (pc : Int) + off = (tgt : Int)) {x y : Int64} {f1 f2 : Option α} (k1 : Jd C nL Q S tgt vs st f2) (k2 : Jd C nL Q S (pc + 3) vs st f1) : Jd C nL Q S pc vs (.int (lg_cmp x y) :: st) (if x = y then f1 else f2) := by
  obtain ⟨p, l, e, R, s, m, args, below, meth, c, A, G, cy, L, K, ce, sl⟩ := C
  intro out hF hw H locs ls hP hD hS hl
  exact lv_if_ne X.1 X.2.1 d ht (fun q => k1 out (by rw [if_neg (fun z => q ((cmp_eq x y).mpr z))] at hF; exact hF) hw H locs ls hP hD hS hl) (fun q => k2 out (by rw [if_pos ((cmp_eq x y).mp q)] at hF; exact hF) hw H locs ls hP hD hS hl)
theorem s_lif_lt (X : Cx C cc nL own fr lo) {off : Int} (d : decode cc pc = .ok (.ifCond .lt off, 3)) (ht : (pc : Int) + off = (tgt : Int)) {x y : Int64} {f1 f2 : Option α} (k1 : Jd C nL Q S tgt vs st f1) (k2 : Jd C nL Q S (pc + 3) vs st f2) : Jd C nL Q S pc vs (.int (lg_cmp x y) :: st) (if x < y then f1 else f2) := by
  obtain ⟨p, l, e, R, s, m, args, below, meth, c, A, G, cy, L, K, ce, sl⟩ := C
  intro out hF hw H locs ls hP hD hS hl
  exact lv_if_lt X.1 X.2.1 d ht (fun q => k1 out (by rw [if_pos ((cmp_lt x y).mp q)] at hF; exact hF) hw H locs ls hP hD hS hl) (fun q => k2 out (by rw [if_neg (fun z => q ((cmp_lt x y).mpr z))] at hF; exact hF) hw H locs ls hP hD hS hl)
theorem s_lif_ge (X : Cx C cc nL own fr lo) {off : Int} (d : decode cc pc = .ok (.ifCond .ge off, 3)) (ht : (pc : Int) + off = (tgt : Int)) {x y : Int64} {f1 f2 : Option α} (k1 : Jd C nL Q S tgt vs st f1) (k2 : Jd C nL Q S (pc + 3) vs st f2) : Jd C nL Q S pc vs (.int (lg_cmp x y) :: st) (if y ≤ x then f1 else f2) := by
  obtain ⟨p, l, e, R, s, m, args, below, meth, c, A, G, cy, L, K, ce, sl⟩ := C
  intro out hF hw H locs ls hP hD hS hl
  exact lv_if_ge X.1 X.2.1 d ht (fun q => k1 out (by rw [if_pos ((cmp_ge x y).mp q)] at hF; exact hF) hw H locs ls hP hD hS hl) (fun q => k2 out (by rw [if_neg (fun z => q ((cmp_ge x y).mpr z))] at hF; exact hF) hw H locs ls hP hD hS hl)
theorem s_lif_gt (X : Cx C cc nL own fr lo) {off : Int} (d : decode cc pc = .ok (.ifCond .gt off, 3)) (ht : (pc : Int) + off = (tgt : Int)) {x y : Int64} {f1 f2 : Option α} (k1 : Jd C nL Q S tgt vs st f1) (k2 : Jd C nL Q S (pc + 3) vs st f2) : Jd C nL Q S pc vs (.int (lg_cmp x y) :: st) (if y < x then f1 else f2) := by
  obtain ⟨p, l, e, R, s, m, args, below, meth, c, A, G, cy, L, K, ce, sl⟩ := C
  intro out hF hw H locs ls hP hD hS hl
  exact lv_if_gt X.1 X.2.1 d ht (fun q => k1 out (by rw [if_pos ((cmp_gt x y).mp q)] at hF; exact hF) hw H locs ls hP hD hS hl) (fun q => k2 out (by rw [if_neg (fun z => q ((cmp_gt x y).mpr z))] at hF; exact hF) hw H locs ls hP hD hS hl)
theorem s_lif_le (X : Cx C cc nL own fr lo) {off : Int} (d : decode cc pc = .ok (.ifCond .le off, 3)) (ht : (pc : Int) + off = (tgt : Int)) {x y : Int64} {f1 f2 : Option α} (k1 : Jd C nL Q S tgt vs st f1) (k2 : Jd C nL Q S (pc + 3) vs st f2) : Jd C nL Q S pc vs (.int (lg_cmp x y) :: st) (if x ≤ y then f1 else f2) := by
  obtain ⟨p, l, e, R, s, m, args, below, meth, c, A, G, cy, L, K, ce, sl⟩ := C
  intro out hF hw H locs ls hP hD hS hl
  exact lv_if_le X.1 X.2.1 d ht (fun q => k1 out (by rw [if_pos ((cmp_le x y).mp q)] at hF; exact hF) hw H locs ls hP hD hS hl) (fun q => k2 out (by rw [if_neg (fun z => q ((cmp_le x y).mpr z))] at hF; exact hF) hw H locs ls hP hD hS hl)
theorem s_idiv (X : Cx C cc nL own fr lo) (d : decode cc pc = .ok (.idiv, 1)) {x y : Int32} {f : Option α} (kk : Jd C nL Q S (pc + 1) vs (.int (x / y) :: st) f) : Jd C nL Q S pc vs (.int y :: .int x :: st) (nz y f) := by
  obtain ⟨p, l, e, R, s, m, args, below, meth, c, A, G, cy, L, K, ce, sl⟩ := C
  intro out hF hw H locs ls hP hD hS hl
  simp only [nz] at hF
  split at hF
  · cases hF
  · rename_i hne
    exact lv_idiv X.1 X.2.1 d hne (kk out hF hw H locs ls hP hD hS hl)
theorem s_idiv0 (X : Cx C cc nL own fr lo) (d : decode cc pc = .ok (.idiv, 1)) {x y : Int32} (hne : ¬ y = 0) {f : Option α} (kk : Jd C nL Q S (pc + 1) vs (.int (x / y) :: st) f) : Jd C nL Q S pc vs (.int y :: .int x :: st) f := by
  obtain ⟨p, l, e, R, s, m, args, below, meth, c, A, G, cy, L, K, ce, sl⟩ := C
  intro out hF hw H locs ls hP hD hS hl
  exact lv_idiv X.1 X.2.1 d hne (kk out hF hw H locs ls hP hD hS hl)
theorem s_irem (X : Cx C cc nL own fr lo) (d : decode cc pc = .ok (.irem, 1)) {x y : Int32} {f : Option α} (kk : Jd C nL Q S (pc + 1) vs (.int (x - x / y * y) :: st) f) : Jd C nL Q S pc vs (.int y :: .int x :: st) (nz y f) := by
  obtain ⟨p, l, e, R, s, m, args, below, meth, c, A, G, cy, L, K, ce, sl⟩ := C
  intro out hF hw H locs ls hP hD hS hl
  simp only [nz] at hF
  split at hF
  · cases hF
  · rename_i hne
    exact lv_irem X.1 X.2.1 d hne (kk out hF hw H locs ls hP hD hS hl)
theorem s_irem0 (X : Cx C cc nL own fr lo) (d : decode cc pc = .ok (.irem, 1)) {x y : Int32} (hne : ¬ y = 0) {f : Option α} (kk : Jd C nL Q S (pc + 1) vs (.int (x - x / y * y) :: st) f) : Jd C nL Q S pc vs (.int y :: .int x :: st) f := by
  obtain ⟨p, l, e, R, s, m, args, below, meth, c, A, G, cy, L, K, ce, sl⟩ := C
  intro out hF hw H locs ls hP hD hS hl
  exact lv_irem X.1 X.2.1 d hne (kk out hF hw H locs ls hP hD hS hl)
theorem s_ldiv (X : Cx C cc nL own fr lo) (d : decode cc pc = .ok (.ldiv, 1)) {x y : Int64} {f : Option α} (kk : Jd C nL Q S (pc + 1) vs (.long (x / y) :: st) f) : Jd C nL Q S pc vs (.long y :: .long x :: st) (nzL y f) := by
  obtain ⟨p, l, e, R, s, m, args, below, meth, c, A, G, cy, L, K, ce, sl⟩ := C
  intro out hF hw H locs ls hP hD hS hl
  simp only [nzL] at hF
  split at hF
  · cases hF
  · rename_i hne
    exact lv_ldiv X.1 X.2.1 d hne (kk out hF hw H locs ls hP hD hS hl)
theorem s_ldiv0 (X : Cx C cc nL own fr lo) (d : decode cc pc = .ok (.ldiv, 1)) {x y : Int64} (hne : ¬ y = 0) {f : Option α} (kk : Jd C nL Q S (pc + 1) vs (.long (x / y) :: st) f) : Jd C nL Q S pc vs (.long y :: .long x :: st) f := by
  obtain ⟨p, l, e, R, s, m, args, below, meth, c, A, G, cy, L, K, ce, sl⟩ := C
  intro out hF hw H locs ls hP hD hS hl
  exact lv_ldiv X.1 X.2.1 d hne (kk out hF hw H locs ls hP hD hS hl)
theorem s_lrem (X : Cx C cc nL own fr lo) (d : decode cc pc = .ok (.lrem, 1)) {x y : Int64} {f : Option α} (kk : Jd C nL Q S (pc + 1) vs (.long (x - x / y * y) :: st) f) : Jd C nL Q S pc vs (.long y :: .long x :: st) (nzL y f) := by
  obtain ⟨p, l, e, R, s, m, args, below, meth, c, A, G, cy, L, K, ce, sl⟩ := C
  intro out hF hw H locs ls hP hD hS hl
  simp only [nzL] at hF
  split at hF
  · cases hF
  · rename_i hne
    exact lv_lrem X.1 X.2.1 d hne (kk out hF hw H locs ls hP hD hS hl)
theorem s_lrem0 (X : Cx C cc nL own fr lo) (d : decode cc pc = .ok (.lrem, 1)) {x y : Int64} (hne : ¬ y = 0) {f : Option α} (kk : Jd C nL Q S (pc + 1) vs (.long (x - x / y * y) :: st) f) : Jd C nL Q S pc vs (.long y :: .long x :: st) f := by
  obtain ⟨p, l, e, R, s, m, args, below, meth, c, A, G, cy, L, K, ce, sl⟩ := C
  intro out hF hw H locs ls hP hD hS hl
  exact lv_lrem X.1 X.2.1 d hne (kk out hF hw H locs ls hP hD hS hl)
theorem s_ldc2 (X : Cx C cc nL own fr lo) {idx : Nat} {v : Int64} (hc : Cond.constantLong own idx v ∈ TT) (d : decode cc pc = .ok (.ldc2_w idx, 3)) {f : Option α} (kk : Jd C nL Q S (pc + 3) vs (.long v :: st) f) : Jd C nL Q S pc vs st f := by
  obtain ⟨p, l, e, R, s, m, args, below, meth, c, A, G, cy, L, K, ce, sl⟩ := C
  intro out hF hw H locs ls hP hD hS hl
  exact lv_ldc2 X.1 X.2.1 X.2.2.2.1 (X.2.2.2.2.1 _ hc) d (kk out hF hw H locs ls hP hD hS hl)
theorem s_ldc (X : Cx C cc nL own fr lo) {idx : Nat} {v : Int32} (hc : Cond.constant own idx v ∈ TT) (d : decode cc pc = .ok (.ldc idx, 2)) {f : Option α} (kk : Jd C nL Q S (pc + 2) vs (.int v :: st) f) : Jd C nL Q S pc vs st f := by
  obtain ⟨p, l, e, R, s, m, args, below, meth, c, A, G, cy, L, K, ce, sl⟩ := C
  intro out hF hw H locs ls hP hD hS hl
  exact lv_ldc X.1 X.2.1 X.2.2.2.1 (X.2.2.2.2.1 _ hc) d (kk out hF hw H locs ls hP hD hS hl)
theorem s_iushr (X : Cx C cc nL own fr lo) (d : decode cc pc = .ok (.iushr, 1)) {x y v : Int32} (hv : (x.toUInt32 >>> (y.toUInt32 &&& Int32.toUInt32 31)).toInt32 = v) {f : Option α} (kk : Jd C nL Q S (pc + 1) vs (.int v :: st) f) : Jd C nL Q S pc vs (.int y :: .int x :: st) f := by
  obtain ⟨p, l, e, R, s, m, args, below, meth, c, A, G, cy, L, K, ce, sl⟩ := C
  intro out hF hw H locs ls hP hD hS hl
  subst hv
  exact lv_iushr X.1 X.2.1 d rfl (kk out hF hw H locs ls hP hD hS hl)
theorem s_goto (X : Cx C cc nL own fr lo) {off : Int} (d : decode cc pc = .ok (.goto off, 3)) (ht : (pc : Int) + off = (tgt : Int)) {f : Option α} (kk : Jd C nL Q S tgt vs st f) : Jd C nL Q S pc vs st f := by
  obtain ⟨p, l, e, R, s, m, args, below, meth, c, A, G, cy, L, K, ce, sl⟩ := C
  intro out hF hw H locs ls hP hD hS hl
  exact lv_goto X.1 X.2.1 d ht (kk out hF hw H locs ls hP hD hS hl)
/-- fewer locals -/
theorem s_less (bs : List Bool) {vs' : List (Option Value)} (h : lvm bs vs = vs') {f : Option α} (kk : Jd C nL Q S pc vs' st f) : Jd C nL Q S pc vs st f := by
  obtain ⟨p, l, e, R, s, m, args, below, meth, c, A, G, cy, L, K, ce, sl⟩ := C
  intro out hF hw H locs ls hP hD hS hl
  exact kk out hF hw H locs ls hP hD hS (h ▸ hl.less bs)
theorem s_jn {κ : Type} {rest : κ} {body : κ → Option α} (P : κ → Prop) (h1 : P rest) (h2 : ∀ k, P k → Jd C nL Q S pc vs st (body k)) : Jd C nL Q S pc vs st (jn rest body) := h2 rest h1
/-- a name for a number on the stack -/
theorem s_nmI {x : Int32} {f : Int32 → Option α} (kk : ∀ v, Jd C nL Q S pc vs (.int v :: st) (f v)) : Jd C nL Q S pc vs (.int x :: st) (lt x f) := kk x
theorem s_nmJ {x : Int64} {f : Int64 → Option α} (kk : ∀ v, Jd C nL Q S pc vs (.long v :: st) (f v)) : Jd C nL Q S pc vs (.long x :: st) (lt x f) := kk x
end
