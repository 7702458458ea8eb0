/-! the pure part: the reference's advance -/
variable {S S0 S1 S2 S' S'' S3 X Y : St} {ad : Nat → Nat} {b d j k : Nat} {v v0 v' v1 v2 u w : Nat → Int64} {np nf no mo no' mo' x y : Nat}
def amE (p0 : Nat) (S20 : St) : Option St := lt (gI S20 p0 13) fun (v23 : Int32) => jn (κ := Option (St)) (lt (uI S20 p0 13 4) fun (S26 : St) => some S26) fun k24 => jn (κ := Option (St)) (lt (gI S20 p0 13) fun (v29 : Int32) => if v29 = 2 then (lt (gI S20 p0 10) fun (v30 : Int32) => lt (gI S20 p0 14) fun (v31 : Int32) => if (v30 - v31) ≤ 6 then (some S20) else (k24)) else (some S20)) fun k27 => if v23 = 1 then (lt (gI S20 p0 10) fun (v32 : Int32) => lt (gI S20 p0 14) fun (v33 : Int32) => if 10 < (v32 - v33) then (k24) else (k27)) else (k27)
def amD (p0 : Nat) (S17 : St) : Option St := jn (κ := St → Option (St)) (amE p0) fun k21 => lp (κ := St → Option (St)) (fun _ => none) (fun k35 S34 => lt (gI S34 p0 13) fun (v37 : Int32) => if v37 = 2 then (lt (gI S34 p0 10) fun (v38 : Int32) => cl (f_X12_byteAt S34 p0 v38) fun (v39 : Int32) => cl (f_X12_isDigit S34 v39) fun (v40 : Int32) => if v40 = 0 then (k21 S34) else (lt (gI S34 p0 10) fun (v41 : Int32) => lt (gI S34 p0 14) fun (v42 : Int32) => jn (κ := St → Option (St)) (fun S43 => lt (gI S43 p0 10) fun (v46 : Int32) => lt (uI S43 p0 10 (v46 + 1)) fun (S47 : St) => k35 S47) fun k44 => if 6 ≤ (v41 - v42) then (k44 S34) else (lt (gJ S34 p0 16) fun (v48 : Int64) => lt (gI S34 p0 10) fun (v49 : Int32) => cl (f_X12_byteAt S34 p0 v49) fun (v50 : Int32) => lt (uJ S34 p0 16 (((v48 * 10) + (Int32.toInt64 v50)) - 48)) fun (S51 : St) => k44 S51))) else (k21 S34)) FU S17
def amC (p0 : Nat) (S14 : St) : Option St := jn (κ := St → Option (St)) (amD p0) fun k18 => lp (κ := St → Option (St)) (fun _ => none) (fun k53 S52 => lt (gI S52 p0 13) fun (v55 : Int32) => if v55 = 1 then (lt (gI S52 p0 10) fun (v56 : Int32) => cl (f_X12_byteAt S52 p0 v56) fun (v57 : Int32) => cl (f_X12_isLetter S52 v57) fun (v58 : Int32) => if v58 = 0 then (k18 S52) else (lt (gI S52 p0 10) fun (v59 : Int32) => lt (gI S52 p0 14) fun (v60 : Int32) => jn (κ := St → Option (St)) (fun S61 => lt (gI S61 p0 10) fun (v64 : Int32) => lt (uI S61 p0 10 (v64 + 1)) fun (S65 : St) => k53 S65) fun k62 => if 10 ≤ (v59 - v60) then (k62 S52) else (lt (gJ S52 p0 16) fun (v66 : Int64) => lt (gI S52 p0 10) fun (v67 : Int32) => cl (f_X12_byteAt S52 p0 v67) fun (v68 : Int32) => lt (uJ S52 p0 16 (((v66 * 32) + (Int32.toInt64 v68)) - 96)) fun (S69 : St) => k62 S69))) else (k18 S52)) FU S14
def amB (p0 : Nat) (S6 : St) (x9 : Int32) : Option St := lt (uI S6 p0 13 x9) fun (S12 : St) => lt (gI S12 p0 13) fun (v13 : Int32) => jn (κ := St → Option (St)) (amC p0) fun k15 => jn (κ := Option (St)) (lt (gI S12 p0 10) fun (v72 : Int32) => lt (uI S12 p0 10 (v72 + 1)) fun (S73 : St) => k15 S73) fun k70 => if v13 = 3 then (k70) else (lt (gI S12 p0 13) fun (v74 : Int32) => if v74 = 4 then (k70) else (k15 S12))
def amA (p0 : Nat) (S1 : St) : Option St := lt (gI S1 p0 10) fun (v4 : Int32) => lt (uI S1 p0 14 v4) fun (S5 : St) => lt (uJ S5 p0 16 0) fun (S6 : St) => lt (gI S6 p0 14) fun (v7 : Int32) => cl (f_X12_byteAt S6 p0 v7) fun (v8 : Int32) => jn (κ := Int32 → Option (St)) (amB p0 S6) fun k10 => if v8 = (-1) then (k10 0) else (cl (f_X12_isLetter S6 v8) fun (v75 : Int32) => if v75 = 0 then (cl (f_X12_isDigit S6 v8) fun (v76 : Int32) => if v76 = 0 then (if v8 = 59 then (k10 3) else (k10 4)) else (k10 2)) else (k10 1))
theorem amX (S : St) (p0 : Nat) : f_X12_advance S p0 = (jn (κ := St → Option (St)) (amA p0) fun k2 => lp (κ := St → Option (St)) (fun _ => none) (fun k78 S77 => lt (gI S77 p0 10) fun (v80 : Int32) => cl (f_X12_byteAt S77 p0 v80) fun (v81 : Int32) => jn (κ := Option (St)) (lt (gI S77 p0 10) fun (v84 : Int32) => lt (uI S77 p0 10 (v84 + 1)) fun (S85 : St) => k78 S85) fun k82 => if v81 = 32 then (k82) else (lt (gI S77 p0 10) fun (v86 : Int32) => cl (f_X12_byteAt S77 p0 v86) fun (v87 : Int32) => if v87 = 10 then (k82) else (k2 S77))) FU S) := by
  unfold f_X12_advance amA amB amC amD amE
  rfl
def rfS (S : St) (ad : Nat → Nat) (M : Nat → Int32) (x : Int64) : St := uJ (qI S (ad 1) M) (ad 1) 16 x
theorem rfS_I (S : St) (ad : Nat → Nat) (M : Nat → Int32) (x : Int64) (i : Nat) : gI (rfS S ad M x) (ad 1) i = M i := by
  show gI (qI S (ad 1) M) (ad 1) i = M i
  rw [gI_qI, if_pos rfl]
theorem rfS_J (S : St) (ad : Nat → Nat) (M : Nat → Int32) (x : Int64) : gJ (rfS S ad M x) (ad 1) 16 = x := by
  rw [rfS, gJ_uJ, if_pos ⟨rfl, rfl⟩]
theorem rfS_u (S : St) (ad : Nat → Nat) (M : Nat → Int32) (x : Int64) (i : Nat) (w : Int32) : uI (rfS S ad M x) (ad 1) i w = rfS S ad (udt M i w) x := by
  show uJ (uI (qI S (ad 1) M) (ad 1) i w) (ad 1) 16 x = _
  rw [uI_qI]; rfl
theorem uJ_uJ' (S : St) (a i : Nat) (w z : Int64) : uJ (uJ S a i w) a i z = uJ S a i z := by
  refine Prod.ext rfl (Prod.ext ?_ rfl)
  funext b j
  show gJ (uJ (uJ S a i w) a i z) b j = gJ (uJ S a i z) b j
  rw [gJ_uJ, gJ_uJ, gJ_uJ]
  by_cases e : b = a ∧ j = i
  · rw [if_pos e, if_pos e]
  · rw [if_neg e, if_neg e, if_neg e]
theorem rfS_v (S : St) (ad : Nat → Nat) (M : Nat → Int32) (x y : Int64) : uJ (rfS S ad M x) (ad 1) 16 y = rfS S ad M y := uJ_uJ' _ _ _ _ _
theorem rfS_t (t : TR S ad) (M : Nat → Int32) (x : Int64) : TR (rfS S ad M x) ad := TR_SR0 ((SR0_qI _ _ _).trans (SR0_uJ _ _ _ _)) t
theorem rfS_o (t : TR S ad) (M : Nat → Int32) (x : Int64) {p : Nat} (hp : p ≠ 1) (i : Nat) : gI (rfS S ad M x) (ad p) i = gI S (ad p) i := by
  show gI (qI S (ad 1) M) (ad p) i = _
  rw [gI_qI, if_neg (fun z => hp ((t.1 _ _).mp z))]
def MB (S : St) (ad : Nat → Nat) (B : Nat → Int32) (n : Nat) : Prop := TR S ad ∧ n ≤ 1500 ∧ ∀ i, i < n → gI S (ad 9) i = B i ∧ BY (B i)
def ub (B : Nat → Int32) (n i : Nat) : Int32 := if i < n then B i &&& 255 else -1
theorem M_byteU {B : Nat → Int32} {n : Nat} (h : MB S ad B n) {M : Nat → Int32} {x : Int64} (h9 : M 9 = nI n) {i : Nat} (hi : i ≤ 1500) : f_X12_byteAt (rfS S ad M x) (ad 1) (nI i) = some (ub B n i) := by
  have t := rfS_t h.1 M x
  have hn := h.2.1
  unfold ub
  by_cases hin : i < n
  · rw [M_byte t h.2.1 (by rw [rfS_I, h9]) hin, if_pos hin, rfS_o h.1 M x (by decide), (h.2.2 i hin).1]
  · rw [if_neg hin]
    simp only [f_X12_byteAt, lt_n, rfS_I, h9]
    rw [if_pos (by rw [nI_leI (by omega) (by omega)]; omega)]
theorem M_digit (S : St) {x : Int32} (h : BY x) : f_X12_isDigit S (x &&& 255) = some (bI (isDg x)) := by
  have e : (decide ((48 : Int64) ≤ (x &&& 255).toInt64) && decide ((x &&& 255).toInt64 ≤ (57 : Int64))) = isDg x := by
    unfold isDg
    simp only [Int64.le_iff_toInt_le, Int32.toInt_toInt64, show (48 : Int64).toInt = 48 from rfl, show (57 : Int64).toInt = 57 from rfl]
    by_cases h0 : 0 ≤ x.toInt
    · rw [ub_p h0 h.2]
    · obtain ⟨a1, a2⟩ := ub_n h.1 (by omega)
      rw [decide_eq_false (show ¬ (x &&& 255).toInt ≤ 57 by omega), decide_eq_false (show ¬ 48 ≤ x.toInt by omega)]
      simp
  simp only [f_X12_isDigit, M_inRange, e, cl_s, zc_b]
theorem ub_eq {x : Int32} (h : BY x) {c : Nat} (hc : c < 128) : (x &&& 255 = nI c) ↔ x = nI c := by
  by_cases h0 : 0 ≤ x.toInt
  · rw [ub_p h0 h.2]
  · obtain ⟨a1, a2⟩ := ub_n h.1 (by omega)
    constructor
    · intro e
      rw [e, nI_toInt (by omega)] at a1
      omega
    · intro e
      rw [e, nI_toInt (by omega)] at h0
      omega
theorem ub_m1 {x : Int32} (h : BY x) : x &&& 255 ≠ -1 := by
  intro e
  by_cases h0 : 0 ≤ x.toInt
  · rw [ub_p h0 h.2] at e
    rw [e] at h0
    exact absurd h0 (by decide)
  · obtain ⟨a1, a2⟩ := ub_n h.1 (by omega)
    rw [e] at a1
    exact absurd a1 (by decide)
theorem nlt_c {x : Int32} {c : Nat} (hc : c = 32 ∨ c = 10 ∨ c = 59) (e : x = nI c) : isLt x = false ∧ isDg x = false := by
  rcases hc with rfl | rfl | rfl <;> subst e <;> decide
/-- the kinds of a byte as the reference sees them -/
theorem ub_k {B : Nat → Int32} {n i : Nat} (hB : ∀ i, i < n → BY (B i)) : (ub B n i = -1 ↔ kc B n i = 0) ∧ ((ub B n i = 32 ∨ ub B n i = 10) ↔ kc B n i = 4) ∧ (∀ S, f_X12_isLetter S (ub B n i) = some (bI (decide (kc B n i = 1)))) ∧ (∀ S, f_X12_isDigit S (ub B n i) = some (bI (decide (kc B n i = 2)))) ∧ (ub B n i = 59 ↔ kc B n i = 3) := by
  unfold ub kc
  by_cases hin : i < n
  · rw [if_pos hin, if_pos hin]
    have hb := hB i hin
    have c5 := ck_le (B i)
    have q32 := ub_eq hb (c := 32) (by decide)
    have q10 := ub_eq hb (c := 10) (by decide)
    have q59 := ub_eq hb (c := 59) (by decide)
    have w32 : (B i &&& 255 = 32) ↔ B i = 32 := q32
    have w10 : (B i &&& 255 = 10) ↔ B i = 10 := q10
    have w59 : (B i &&& 255 = 59) ↔ B i = 59 := q59
    refine ⟨⟨fun e => absurd e (ub_m1 hb), fun e => by omega⟩, ?_, fun S => ?_, fun S => ?_, ?_⟩
    · rw [w32, w10]
      constructor
      · intro e
        have : isLt (B i) = false ∧ isDg (B i) = false := e.elim (fun z => nlt_c (c := 32) (by omega) z) (fun z => nlt_c (c := 10) (by omega) z)
        unfold ck
        rw [this.1, this.2, if_neg (by decide), if_neg (by decide), if_pos e]
      · intro e
        refine Classical.byContradiction fun hn => ?_
        unfold ck at e
        rw [if_neg hn] at e
        by_cases z1 : isLt (B i) = true
        · rw [if_pos z1] at e; omega
        · rw [if_neg z1] at e
          by_cases z2 : isDg (B i) = true
          · rw [if_pos z2] at e; omega
          · rw [if_neg z2] at e
            by_cases z3 : B i = 59
            · rw [if_pos z3] at e; omega
            · rw [if_neg z3] at e; omega
    · rw [M_letter S hb]
      congr 2
      rw [Bool.eq_iff_iff, decide_eq_true_eq, ck_1]
    · rw [M_digit S hb]
      congr 2
      rw [Bool.eq_iff_iff, decide_eq_true_eq, ck_2]
    · rw [w59]
      constructor
      · intro e
        have := nlt_c (c := 59) (by omega) e
        have n3 : ¬ (B i = 32 ∨ B i = 10) := by rw [e]; decide
        unfold ck
        rw [this.1, this.2, if_neg (by decide), if_neg (by decide), if_neg n3, if_pos e]
      · intro e
        refine Classical.byContradiction fun hn => ?_
        unfold ck at e
        rw [if_neg hn] at e
        by_cases z1 : isLt (B i) = true
        · rw [if_pos z1] at e; omega
        · rw [if_neg z1] at e
          by_cases z2 : isDg (B i) = true
          · rw [if_pos z2] at e; omega
          · rw [if_neg z2] at e
            by_cases z3 : B i = 32 ∨ B i = 10
            · rw [if_pos z3] at e; omega
            · rw [if_neg z3] at e; omega
  · rw [if_neg hin, if_neg hin]
    refine ⟨⟨fun _ => rfl, fun _ => rfl⟩, ⟨fun e => absurd e (by decide), fun e => absurd e (by decide)⟩, fun S => ?_, fun S => ?_, ⟨fun e => absurd e (by decide), fun e => absurd e (by decide)⟩⟩
    · rw [f_X12_isLetter, M_inRange]; rfl
    · rw [f_X12_isDigit, M_inRange]; rfl
/-- the value of digits -/
def dgd (g : Nat → Int32) : Nat → Int64
  | 0 => 0
  | m + 1 => dgd g m * 10 + (g m).toInt64 - 48
theorem ub_l {B : Nat → Int32} {n i : Nat} (h : kc B n i = 1) : ub B n i = B i := by
  have hin := kc_in (B := B) (n := n) (i := i) (by omega)
  rw [kc, if_pos hin, ck_1] at h
  rw [ub, if_pos hin, isLt_ub h]
theorem ub_d {B : Nat → Int32} {n i : Nat} (h : kc B n i = 2) : ub B n i = B i := by
  have hin := kc_in (B := B) (n := n) (i := i) (by omega)
  rw [kc, if_pos hin, ck_2, isDg, Bool.and_eq_true, decide_eq_true_eq, decide_eq_true_eq] at h
  rw [ub, if_pos hin, ub_p (by omega) (by omega)]
