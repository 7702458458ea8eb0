/-! Math, arraycopy -/
def cpyI (S : St) (a sp b dp n : Nat) : St := (fun c j => if c = b then va_cpy (S.1 a) (S.1 b) sp dp n j else S.1 c j, S.2)
def cpyJ (S : St) (a sp b dp n : Nat) : St := (S.1, fun c j => if c = b then va_cpy (S.2.1 a) (S.2.1 b) sp dp n j else S.2.1 c j, S.2.2)
def cpI {β : Type} (S : St) (a : Nat) (sp : Int32) (b : Nat) (dp n : Int32) (k : St → Option β) : Option β := if sp < 0 ∨ dp < 0 ∨ n < 0 ∨ gN S a < sp.toNatClampNeg + n.toNatClampNeg ∨ gN S b < dp.toNatClampNeg + n.toNatClampNeg then none else k (cpyI S a sp.toNatClampNeg b dp.toNatClampNeg n.toNatClampNeg)
def cpJ {β : Type} (S : St) (a : Nat) (sp : Int32) (b : Nat) (dp n : Int32) (k : St → Option β) : Option β := if sp < 0 ∨ dp < 0 ∨ n < 0 ∨ gN S a < sp.toNatClampNeg + n.toNatClampNeg ∨ gN S b < dp.toNatClampNeg + n.toNatClampNeg then none else k (cpyJ S a sp.toNatClampNeg b dp.toNatClampNeg n.toNatClampNeg)
def cpB {β : Type} (S : St) (a : Nat) (sp : Int32) (b : Nat) (dp n : Int32) (k : St → Option β) : Option β := if (List.range n.toNatClampNeg).all (fun i => fits .byte (.int (gI S a (sp.toNatClampNeg + i)))) then cpI S a sp b dp n k else none
theorem ent_cpyI {cy : Nat → ClassId} {K : Nat → Nat} (S : St) {a b c sp dp n : Nat} (h : c ≠ b) : ent cy K (cpyI S a sp b dp n) c = ent cy K S c := by
  have e : (cpyI S a sp b dp n).1 c = S.1 c := by funext j; simp [cpyI, h]
  simp only [ent]
  rw [e]
  rw [fvs_eq (S := cpyI S a sp b dp n) (S' := S) (a := c) (b := c) (lay (K c)) 0 (fun k t _ => by simp only [fv, gI, gJ, gR]; rw [e]; rfl)]
  rfl
theorem ent_cpyJ {cy : Nat → ClassId} {K : Nat → Nat} (S : St) {a b c sp dp n : Nat} (h : c ≠ b) : ent cy K (cpyJ S a sp b dp n) c = ent cy K S c := by
  have e : (cpyJ S a sp b dp n).2.1 c = S.2.1 c := by funext j; simp [cpyJ, h]
  simp only [ent]
  rw [e]
  rw [fvs_eq (S := cpyJ S a sp b dp n) (S' := S) (a := c) (b := c) (lay (K c)) 0 (fun k t _ => by simp only [fv, gI, gJ, gR]; rw [e]; rfl)]
  rfl
theorem row_cpyI (S : St) (a sp b dp n : Nat) : (cpyI S a sp b dp n).1 b = va_cpy (S.1 a) (S.1 b) sp dp n := by funext j; simp [cpyI]
theorem row_cpyJ (S : St) (a sp b dp n : Nat) : (cpyJ S a sp b dp n).2.1 b = va_cpy (S.2.1 a) (S.2.1 b) sp dp n := by funext j; simp [cpyJ]
section
variable {α : Type} {C : CT} {cc : ByteArray} {nL : Nat} {own : String} {fr lo : Nat} {Q : α → State → Prop} {S : St} {vs : List (Option Value)} {st : List Value} {pc a b idx : Nat}
theorem g_Mmin : Cond.static Lib.Math.min.name ∈ TT ∧ Cond.initialized "java/lang/Math" ∈ TT ∧ Cond.code Lib.Math.min.name Lib.Math.min.code 2 (some .int) ∈ TT := ⟨TT_3 (i := 179) rfl rfl, TT_1 (i := 20) rfl rfl, TT_3 (i := 180) rfl rfl⟩
theorem s_Mmin (X : Cx C cc nL own fr lo) (h : Cond.methodLink own idx Lib.Math.min.name ∈ TT) (hfr : 1 ≤ fr) (hlo : (st.map fun v => v.category).sum + 13 ≤ lo) (d : decode cc pc = .ok (.invokestatic idx, 3)) {x y : Int32} {f : Int32 → Option α} (kk : ∀ v, Jd C nL Q S (pc + 3) vs (.int v :: st) (f v)) : Jd C nL Q S pc vs (.int y :: .int x :: st) (lt (if y < x then y else x) f) := by
  obtain ⟨p, l, e, R, s, m, args, below, meth, c, A, G, cy, L, K, ce, sl⟩ := C
  intro out hF hw H locs ls hP hD hS hl
  obtain ⟨hx, hb, hml, hown, hts, hK, hA, hlk, hRf, hRl, hL, hce, hsl⟩ := id X
  exact va_mmin hx hb (hml.trans hl.1.symm) hown (hts _ h) (hts _ g_Mmin.1) (hts _ g_Mmin.2.1) (hts _ g_Mmin.2.2) (by rw [hRf]; exact hfr) (by rw [hRl]; exact hlo) hce hsl d (kk _ out hF hw H locs ls hP hD hS hl)
theorem g_Mmax : Cond.static Lib.Math.max.name ∈ TT ∧ Cond.initialized "java/lang/Math" ∈ TT ∧ Cond.code Lib.Math.max.name Lib.Math.max.code 2 (some .int) ∈ TT := ⟨TT_4 (i := 118) rfl rfl, TT_1 (i := 20) rfl rfl, TT_4 (i := 119) rfl rfl⟩
theorem s_Mmax (X : Cx C cc nL own fr lo) (h : Cond.methodLink own idx Lib.Math.max.name ∈ TT) (hfr : 1 ≤ fr) (hlo : (st.map fun v => v.category).sum + 13 ≤ lo) (d : decode cc pc = .ok (.invokestatic idx, 3)) {x y : Int32} {f : Int32 → Option α} (kk : ∀ v, Jd C nL Q S (pc + 3) vs (.int v :: st) (f v)) : Jd C nL Q S pc vs (.int y :: .int x :: st) (lt (if x < y then y else x) f) := by
  obtain ⟨p, l, e, R, s, m, args, below, meth, c, A, G, cy, L, K, ce, sl⟩ := C
  intro out hF hw H locs ls hP hD hS hl
  obtain ⟨hx, hb, hml, hown, hts, hK, hA, hlk, hRf, hRl, hL, hce, hsl⟩ := id X
  exact va_mmax hx hb (hml.trans hl.1.symm) hown (hts _ h) (hts _ g_Mmax.1) (hts _ g_Mmax.2.1) (hts _ g_Mmax.2.2) (by rw [hRf]; exact hfr) (by rw [hRl]; exact hlo) hce hsl d (kk _ out hF hw H locs ls hP hD hS hl)
theorem g_Mabs : Cond.static Lib.Math.abs.name ∈ TT ∧ Cond.initialized "java/lang/Math" ∈ TT ∧ Cond.code Lib.Math.abs.name Lib.Math.abs.code 1 (some .int) ∈ TT := ⟨TT_3 (i := 176) rfl rfl, TT_1 (i := 20) rfl rfl, TT_3 (i := 177) rfl rfl⟩
theorem s_Mabs (X : Cx C cc nL own fr lo) (h : Cond.methodLink own idx Lib.Math.abs.name ∈ TT) (hfr : 1 ≤ fr) (hlo : (st.map fun v => v.category).sum + 13 ≤ lo) (d : decode cc pc = .ok (.invokestatic idx, 3)) {x : Int32} {f : Int32 → Option α} (kk : ∀ v, Jd C nL Q S (pc + 3) vs (.int v :: st) (f v)) : Jd C nL Q S pc vs (.int x :: st) (lt (if 0 ≤ x then x else 0 - x) f) := by
  obtain ⟨p, l, e, R, s, m, args, below, meth, c, A, G, cy, L, K, ce, sl⟩ := C
  intro out hF hw H locs ls hP hD hS hl
  obtain ⟨hx, hb, hml, hown, hts, hK, hA, hlk, hRf, hRl, hL, hce, hsl⟩ := id X
  exact va_mabs hx hb (hml.trans hl.1.symm) hown (hts _ h) (hts _ g_Mabs.1) (hts _ g_Mabs.2.1) (hts _ g_Mabs.2.2) (by rw [hRf]; exact hfr) (by rw [hRl]; exact hlo) hce hsl d (kk _ out hF hw H locs ls hP hD hS hl)
theorem g_MminJ : Cond.static Lib.MathLoose.min_long.x ∈ TT ∧ Cond.initialized "java/lang/Math" ∈ TT ∧ Cond.code Lib.MathLoose.min_long.x Lib.MathLoose.min_long.code 4 (some .long) ∈ TT := ⟨TT_5 (i := 37) rfl rfl, TT_1 (i := 20) rfl rfl, TT_5 (i := 38) rfl rfl⟩
theorem s_MminJ (X : Cx C cc nL own fr lo) (h : Cond.methodLink own idx Lib.MathLoose.min_long.x ∈ TT) (hfr : 1 ≤ fr) (hlo : (st.map fun v => v.category).sum + 15 ≤ lo) (d : decode cc pc = .ok (.invokestatic idx, 3)) {x y : Int64} {f : Int64 → Option α} (kk : ∀ v, Jd C nL Q S (pc + 3) vs (.long v :: st) (f v)) : Jd C nL Q S pc vs (.long y :: .long x :: st) (lt (if y < x then y else x) f) := by
  obtain ⟨p, l, e, R, s, m, args, below, meth, c, A, G, cy, L, K, ce, sl⟩ := C
  intro out hF hw H locs ls hP hD hS hl
  obtain ⟨hx, hb, hml, hown, hts, hK, hA, hlk, hRf, hRl, hL, hce, hsl⟩ := id X
  exact va_mmin_long hx hb (hml.trans hl.1.symm) hown (hts _ h) (hts _ g_MminJ.1) (hts _ g_MminJ.2.1) (hts _ g_MminJ.2.2) (by rw [hRf]; exact hfr) (by rw [hRl]; exact hlo) hce hsl d (kk _ out hF hw H locs ls hP hD hS hl)
theorem g_MmaxJ : Cond.static Lib.MathLoose.max_long.x ∈ TT ∧ Cond.initialized "java/lang/Math" ∈ TT ∧ Cond.code Lib.MathLoose.max_long.x Lib.MathLoose.max_long.code 4 (some .long) ∈ TT := ⟨TT_4 (i := 71) rfl rfl, TT_1 (i := 20) rfl rfl, TT_4 (i := 72) rfl rfl⟩
theorem s_MmaxJ (X : Cx C cc nL own fr lo) (h : Cond.methodLink own idx Lib.MathLoose.max_long.x ∈ TT) (hfr : 1 ≤ fr) (hlo : (st.map fun v => v.category).sum + 15 ≤ lo) (d : decode cc pc = .ok (.invokestatic idx, 3)) {x y : Int64} {f : Int64 → Option α} (kk : ∀ v, Jd C nL Q S (pc + 3) vs (.long v :: st) (f v)) : Jd C nL Q S pc vs (.long y :: .long x :: st) (lt (if y < x then x else y) f) := by
  obtain ⟨p, l, e, R, s, m, args, below, meth, c, A, G, cy, L, K, ce, sl⟩ := C
  intro out hF hw H locs ls hP hD hS hl
  obtain ⟨hx, hb, hml, hown, hts, hK, hA, hlk, hRf, hRl, hL, hce, hsl⟩ := id X
  exact va_mmax_long hx hb (hml.trans hl.1.symm) hown (hts _ h) (hts _ g_MmaxJ.1) (hts _ g_MmaxJ.2.1) (hts _ g_MmaxJ.2.2) (by rw [hRf]; exact hfr) (by rw [hRl]; exact hlo) hce hsl d (kk _ out hF hw H locs ls hP hD hS hl)
theorem g_MabsJ : Cond.static Lib.MathLoose.abs_long.x ∈ TT ∧ Cond.initialized "java/lang/Math" ∈ TT ∧ Cond.code Lib.MathLoose.abs_long.x Lib.MathLoose.abs_long.code 2 (some .long) ∈ TT := ⟨TT_7 (i := 196) rfl rfl, TT_1 (i := 20) rfl rfl, TT_7 (i := 197) rfl rfl⟩
theorem s_MabsJ (X : Cx C cc nL own fr lo) (h : Cond.methodLink own idx Lib.MathLoose.abs_long.x ∈ TT) (hfr : 1 ≤ fr) (hlo : (st.map fun v => v.category).sum + 13 ≤ lo) (d : decode cc pc = .ok (.invokestatic idx, 3)) {x : Int64} {f : Int64 → Option α} (kk : ∀ v, Jd C nL Q S (pc + 3) vs (.long v :: st) (f v)) : Jd C nL Q S pc vs (.long x :: st) (lt (if 0 < x then x else -x) f) := by
  obtain ⟨p, l, e, R, s, m, args, below, meth, c, A, G, cy, L, K, ce, sl⟩ := C
  intro out hF hw H locs ls hP hD hS hl
  obtain ⟨hx, hb, hml, hown, hts, hK, hA, hlk, hRf, hRl, hL, hce, hsl⟩ := id X
  exact va_mabs_long hx hb (hml.trans hl.1.symm) hown (hts _ h) (hts _ g_MabsJ.1) (hts _ g_MabsJ.2.1) (hts _ g_MabsJ.2.2) (by rw [hRf]; exact hfr) (by rw [hRl]; exact hlo) hce hsl d (kk _ out hF hw H locs ls hP hD hS hl)
theorem g_copy : Cond.native arraycopyName ∈ TT ∧ Cond.static arraycopyName ∈ TT ∧ Cond.initialized "java/lang/System" ∈ TT := ⟨TT_3 (i := 135) rfl rfl, TT_3 (i := 134) rfl rfl, TT_1 (i := 19) rfl rfl⟩
theorem s_copyI (X : Cx C cc nL own fr lo) (h : Cond.methodLink own idx arraycopyName ∈ TT) (ta : tT C a 13) (tb : tT C b 13) (hfr : 1 ≤ fr) (hlo : (st.map fun v => v.category).sum + (nativeFrameWords "java/lang/System" "arraycopy" 5 + 11) ≤ lo) (d : decode cc pc = .ok (.invokestatic idx, 3)) {sp dp n : Int32} {f : St → Option α} (kk : ∀ S', Jd C nL Q S' (pc + 3) vs st (f S')) : Jd C nL Q S pc vs (.int n :: .int dp :: .ref b :: .int sp :: .ref a :: st) (cpI S a sp b dp n f) := by
  obtain ⟨p, l, e, R, s, m, args, below, meth, c, A, G, cy, L, K, ce, sl⟩ := C
  intro out hF hw H locs ls hP hD hS hl
  obtain ⟨hx, hb, hml, hown, hts, hK, hA, hlk, hRf, hRl, hL, hce, hsl⟩ := id X
  obtain ⟨q0, hq0⟩ := pl_get (cy := cy) (K := K) (S := S) ta.1
  obtain ⟨q1, hq1⟩ := pl_get (cy := cy) (K := K) (S := S) tb.1
  have hq1' := hq1
  rw [ent_arr.2.1 ta.2] at hq0
  rw [ent_arr.2.1 tb.2] at hq1'
  simp only [cpI] at hF
  split at hF
  · cases hF
  · rename_i hin
    simp only [not_or, Nat.not_lt] at hin
    refine va_copyi (ty := .int) hx hb (hml.trans hl.1.symm) hown (hts _ h) (hts _ g_copy.1) (hts _ g_copy.2.1) (hts _ g_copy.2.2) hK hP hD hS q0 q1 1 1 hq0 hq1' rfl rfl rfl hin.1 hin.2.1 hin.2.2.1 hin.2.2.2.1 hin.2.2.2.2 (fun i hi => rfl) (by rw [hRf]; exact hfr) (by rw [hRl]; exact hlo) d (fun H1 locs1 hP1 hD1 hS1 => ?_)
    rw [pl_set (S' := cpyI S a sp.toNatClampNeg b dp.toNatClampNeg n.toNatClampNeg) hD tb.1 hq1 (by rw [ent_arr.2.1 tb.2, row_cpyI]; rfl) (fun c hc => ent_cpyI S hc)] at hP1 hD1
    exact kk _ out hF hw H1 locs1 ls hP1 hD1 hS1 hl
theorem s_copyJ (X : Cx C cc nL own fr lo) (h : Cond.methodLink own idx arraycopyName ∈ TT) (ta : tT C a 14) (tb : tT C b 14) (hfr : 1 ≤ fr) (hlo : (st.map fun v => v.category).sum + (nativeFrameWords "java/lang/System" "arraycopy" 5 + 11) ≤ lo) (d : decode cc pc = .ok (.invokestatic idx, 3)) {sp dp n : Int32} {f : St → Option α} (kk : ∀ S', Jd C nL Q S' (pc + 3) vs st (f S')) : Jd C nL Q S pc vs (.int n :: .int dp :: .ref b :: .int sp :: .ref a :: st) (cpJ S a sp b dp n f) := by
  obtain ⟨p, l, e, R, s, m, args, below, meth, c, A, G, cy, L, K, ce, sl⟩ := C
  intro out hF hw H locs ls hP hD hS hl
  obtain ⟨hx, hb, hml, hown, hts, hK, hA, hlk, hRf, hRl, hL, hce, hsl⟩ := id X
  obtain ⟨q0, hq0⟩ := pl_get (cy := cy) (K := K) (S := S) ta.1
  obtain ⟨q1, hq1⟩ := pl_get (cy := cy) (K := K) (S := S) tb.1
  have hq1' := hq1
  rw [ent_arr.2.2.1 ta.2] at hq0
  rw [ent_arr.2.2.1 tb.2] at hq1'
  simp only [cpJ] at hF
  split at hF
  · cases hF
  · rename_i hin
    simp only [not_or, Nat.not_lt] at hin
    refine va_copyl (ty := .long) hx hb (hml.trans hl.1.symm) hown (hts _ h) (hts _ g_copy.1) (hts _ g_copy.2.1) (hts _ g_copy.2.2) hK hP hD hS q0 q1 2 2 hq0 hq1' rfl rfl rfl hin.1 hin.2.1 hin.2.2.1 hin.2.2.2.1 hin.2.2.2.2 (fun i hi => rfl) (by rw [hRf]; exact hfr) (by rw [hRl]; exact hlo) d (fun H1 locs1 hP1 hD1 hS1 => ?_)
    rw [pl_set (S' := cpyJ S a sp.toNatClampNeg b dp.toNatClampNeg n.toNatClampNeg) hD tb.1 hq1 (by rw [ent_arr.2.2.1 tb.2, row_cpyJ]; rfl) (fun c hc => ent_cpyJ S hc)] at hP1 hD1
    exact kk _ out hF hw H1 locs1 ls hP1 hD1 hS1 hl
theorem s_copyB (X : Cx C cc nL own fr lo) (h : Cond.methodLink own idx arraycopyName ∈ TT) (ta : tT C a 12) (tb : tT C b 12) (hfr : 1 ≤ fr) (hlo : (st.map fun v => v.category).sum + (nativeFrameWords "java/lang/System" "arraycopy" 5 + 11) ≤ lo) (d : decode cc pc = .ok (.invokestatic idx, 3)) {sp dp n : Int32} {f : St → Option α} (kk : ∀ S', Jd C nL Q S' (pc + 3) vs st (f S')) : Jd C nL Q S pc vs (.int n :: .int dp :: .ref b :: .int sp :: .ref a :: st) (cpB S a sp b dp n f) := by
  obtain ⟨p, l, e, R, s, m, args, below, meth, c, A, G, cy, L, K, ce, sl⟩ := C
  intro out hF hw H locs ls hP hD hS hl
  obtain ⟨hx, hb, hml, hown, hts, hK, hA, hlk, hRf, hRl, hL, hce, hsl⟩ := id X
  obtain ⟨q0, hq0⟩ := pl_get (cy := cy) (K := K) (S := S) ta.1
  obtain ⟨q1, hq1⟩ := pl_get (cy := cy) (K := K) (S := S) tb.1
  have hq1' := hq1
  rw [ent_arr.1 ta.2] at hq0
  rw [ent_arr.1 tb.2] at hq1'
  simp only [cpB] at hF
  split at hF
  · rename_i hfit
    simp only [cpI] at hF
    split at hF
    · cases hF
    · rename_i hin
      simp only [not_or, Nat.not_lt] at hin
      refine va_copyi (ty := .byte) hx hb (hml.trans hl.1.symm) hown (hts _ h) (hts _ g_copy.1) (hts _ g_copy.2.1) (hts _ g_copy.2.2) hK hP hD hS q0 q1 0 0 hq0 hq1' rfl rfl rfl hin.1 hin.2.1 hin.2.2.1 hin.2.2.2.1 hin.2.2.2.2 (fun i hi => List.all_eq_true.mp hfit i (List.mem_range.mpr hi)) (by rw [hRf]; exact hfr) (by rw [hRl]; exact hlo) d (fun H1 locs1 hP1 hD1 hS1 => ?_)
      rw [pl_set (S' := cpyI S a sp.toNatClampNeg b dp.toNatClampNeg n.toNatClampNeg) hD tb.1 hq1 (by rw [ent_arr.1 tb.2, row_cpyI]; rfl) (fun c hc => ent_cpyI S hc)] at hP1 hD1
      exact kk _ out hF hw H1 locs1 ls hP1 hD1 hS1 hl
  · cases hF
theorem s_ldcw (X : Cx C cc nL own fr lo) {v : Int32} (hc : Cond.constant own idx v ∈ TT) (d : decode cc pc = .ok (.ldc_w idx, 3)) {f : Option α} (kk : Jd C nL Q S (pc + 3) vs (.int v :: st) f) : Jd C nL Q S pc vs st f := by
  obtain ⟨p, l, e, R, s, m, args, below, meth, c, A, G, cy, L, K, ce, sl⟩ := C
  intro out hF hw H locs ls hP hD hS hl
  exact lv_ldcw X.1 X.2.1 X.2.2.2.1 (X.2.2.2.2.1 _ hc) d (kk out hF hw H locs ls hP hD hS hl)
end
