/-! the pure part: words that both sides know -/
variable {S S0 S1 S2 S' S'' S3 X Y : St} {ad : Nat → Nat} {b d j k : Nat} {v v0 v' v1 v2 u w : Nat → Int64} {np nf no mo no' mo' x y : Nat}
theorem pk_100_101_108_105_118 (S : St) : f_X12_pack S 100 101 108 105 118 = some 4370742 := by
  have h : f_X12_pack (fun _ _ => 0, fun _ _ => 0, fun _ _ => 0, fun _ => 0) 100 101 108 105 118 = some 4370742 := by decide +kernel
  exact h
theorem pk_100_101_108_97_121 (S : St) : f_X12_pack S 100 101 108 97 121 = some 4370489 := by
  have h : f_X12_pack (fun _ _ => 0, fun _ _ => 0, fun _ _ => 0, fun _ => 0) 100 101 108 97 121 = some 4370489 := by decide +kernel
  exact h
theorem pk_101_114_0_0_0 (S : St) : f_X12_pack S 101 114 0 0 0 = some 178 := by
  have h : f_X12_pack (fun _ _ => 0, fun _ _ => 0, fun _ _ => 0, fun _ => 0) 101 114 0 0 0 = some 178 := by decide +kernel
  exact h
theorem pk_101_115_116_0_0 (S : St) : f_X12_pack S 101 115 116 0 0 = some 5748 := by
  have h : f_X12_pack (fun _ _ => 0, fun _ _ => 0, fun _ _ => 0, fun _ => 0) 101 115 116 0 0 = some 5748 := by decide +kernel
  exact h
theorem pk_102_101_101_0_0 (S : St) : f_X12_pack S 102 101 101 0 0 = some 6309 := by
  have h : f_X12_pack (fun _ _ => 0, fun _ _ => 0, fun _ _ => 0, fun _ => 0) 102 101 101 0 0 = some 6309 := by decide +kernel
  exact h
theorem pk_102_114_97_110_99 (S : St) : f_X12_pack S 102 114 97 110 99 = some 6882755 := by
  have h : f_X12_pack (fun _ _ => 0, fun _ _ => 0, fun _ _ => 0, fun _ => 0) 102 114 97 110 99 = some 6882755 := by decide +kernel
  exact h
theorem pk_103_114_97_110_116 (S : St) : f_X12_pack S 103 114 97 110 116 = some 7931348 := by
  have h : f_X12_pack (fun _ _ => 0, fun _ _ => 0, fun _ _ => 0, fun _ => 0) 103 114 97 110 116 = some 7931348 := by decide +kernel
  exact h
theorem pk_104_105_115_101_101 (S : St) : f_X12_pack S 104 105 115 101 101 = some 8703141 := by
  have h : f_X12_pack (fun _ _ => 0, fun _ _ => 0, fun _ _ => 0, fun _ => 0) 104 105 115 101 101 = some 8703141 := by decide +kernel
  exact h
theorem pk_105_103_110_0_0 (S : St) : f_X12_pack S 105 103 110 0 0 = some 9454 := by
  have h : f_X12_pack (fun _ _ => 0, fun _ _ => 0, fun _ _ => 0, fun _ => 0) 105 103 110 0 0 = some 9454 := by decide +kernel
  exact h
theorem pk_105_110_116_101_114 (S : St) : f_X12_pack S 105 110 116 101 114 = some 9916594 := by
  have h : f_X12_pack (fun _ _ => 0, fun _ _ => 0, fun _ _ => 0, fun _ => 0) 105 110 116 101 114 = some 9916594 := by decide +kernel
  exact h
theorem pk_110_111_0_0_0 (S : St) : f_X12_pack S 110 111 0 0 0 = some 463 := by
  have h : f_X12_pack (fun _ _ => 0, fun _ _ => 0, fun _ _ => 0, fun _ => 0) 110 111 0 0 0 = some 463 := by decide +kernel
  exact h
theorem pk_111_117_116_108_101 (S : St) : f_X12_pack S 111 117 116 108 101 = some 16437637 := by
  have h : f_X12_pack (fun _ _ => 0, fun _ _ => 0, fun _ _ => 0, fun _ => 0) 111 117 116 108 101 = some 16437637 := by decide +kernel
  exact h
theorem pk_112_108_97_110_0 (S : St) : f_X12_pack S 112 108 97 110 0 = some 536622 := by
  have h : f_X12_pack (fun _ _ => 0, fun _ _ => 0, fun _ _ => 0, fun _ => 0) 112 108 97 110 0 = some 536622 := by decide +kernel
  exact h
theorem pk_112_97_121_0_0 (S : St) : f_X12_pack S 112 97 121 0 0 = some 16441 := by
  have h : f_X12_pack (fun _ _ => 0, fun _ _ => 0, fun _ _ => 0, fun _ => 0) 112 97 121 0 0 = some 16441 := by decide +kernel
  exact h
theorem pk_115_97_108_101_115 (S : St) : f_X12_pack S 115 97 108 101 115 = some 19968179 := by
  have h : f_X12_pack (fun _ _ => 0, fun _ _ => 0, fun _ _ => 0, fun _ => 0) 115 97 108 101 115 = some 19968179 := by decide +kernel
  exact h
theorem pk_118_111_116_101_0 (S : St) : f_X12_pack S 118 111 116 101 0 = some 736901 := by
  have h : f_X12_pack (fun _ _ => 0, fun _ _ => 0, fun _ _ => 0, fun _ => 0) 118 111 116 101 0 = some 736901 := by decide +kernel
  exact h
theorem pk_119_111_114_116_104 (S : St) : f_X12_pack S 119 111 114 116 104 = some 24627848 := by
  have h : f_X12_pack (fun _ _ => 0, fun _ _ => 0, fun _ _ => 0, fun _ => 0) 119 111 114 116 104 = some 24627848 := by decide +kernel
  exact h
theorem pk_121_101_115_0_0 (S : St) : f_X12_pack S 121 101 115 0 0 = some 25779 := by
  have h : f_X12_pack (fun _ _ => 0, fun _ _ => 0, fun _ _ => 0, fun _ => 0) 121 101 115 0 0 = some 25779 := by decide +kernel
  exact h
theorem pk_97_100_109_105_110 (S : St) : f_X12_pack S 97 100 109 105 110 = some 1193262 := by
  have h : f_X12_pack (fun _ _ => 0, fun _ _ => 0, fun _ _ => 0, fun _ => 0) 97 100 109 105 110 = some 1193262 := by decide +kernel
  exact h
theorem pk_97_114_101_97_0 (S : St) : f_X12_pack S 97 114 101 97 0 = some 51361 := by
  have h : f_X12_pack (fun _ _ => 0, fun _ _ => 0, fun _ _ => 0, fun _ => 0) 97 114 101 97 0 = some 51361 := by decide +kernel
  exact h
theorem pk_99_108_111_115_101 (S : St) : f_X12_pack S 99 108 111 115 101 = some 3554917 := by
  have h : f_X12_pack (fun _ _ => 0, fun _ _ => 0, fun _ _ => 0, fun _ => 0) 99 108 111 115 101 = some 3554917 := by decide +kernel
  exact h
theorem pk_99_114_101_100_105 (S : St) : f_X12_pack S 99 114 101 100 105 = some 3740809 := by
  have h : f_X12_pack (fun _ _ => 0, fun _ _ => 0, fun _ _ => 0, fun _ => 0) 99 114 101 100 105 = some 3740809 := by decide +kernel
  exact h
theorem pk_99_97_109_112_97 (S : St) : f_X12_pack S 99 97 109 112 97 = some 3192321 := by
  have h : f_X12_pack (fun _ _ => 0, fun _ _ => 0, fun _ _ => 0, fun _ => 0) 99 97 109 112 97 = some 3192321 := by decide +kernel
  exact h
def wdL : List Int64 := [536622, 230946943323301, 51361, 526004404, 119705908, 324946957940, 1193262, 6309, 4370489, 24627848, 19968179, 4475639986, 16441, 7931348, 104605983982, 736901, 3554917, 25779, 463]
theorem wdL_e : ∀ i, i < 19 → wdL.getD i 0 = pkd (wdC i) (lenS.getD i 0) := by decide +kernel
theorem isW_x {B M : Nat → Int32} {x : Int64} {n e i : Nat} (r : RT B M x n e) (hk : tkK B n e = 1) (hi : i < 19) {z : Int64} (hz : wdL.getD i 0 = z) : (x = z) = (isW B n e i = true) := by
  rw [← isW_pk r.2.2.2.2.2.2 hi hk, ← wdL_e i hi, hz, r.2.2.2.2.1 hk]
theorem isW_n {B : Nat → Int32} {n e i : Nat} (hk : tkK B n e ≠ 1) : isW B n e i = false := decide_eq_false (fun z => hk z.1)
def stW (B : Nat → Int32) (n e : Nat) : Int32 := if isW B n e 0 then 0 else if isW B n e 1 then 1 else if isW B n e 2 then 2 else if isW B n e 3 then 3 else if isW B n e 4 then 4 else if isW B n e 5 then 5 else if isW B n e 6 then 6 else if isW B n e 7 then 7 else if isW B n e 8 then 8 else if isW B n e 9 then 9 else -1
def enW (B : Nat → Int32) (n e : Nat) : Int32 := if isW B n e 10 then 0 else if isW B n e 11 then 1 else if isW B n e 12 then 2 else if isW B n e 13 then 3 else if isW B n e 14 then 4 else if isW B n e 15 then 5 else if isW B n e 16 then 6 else -1
theorem M_stat {B M : Nat → Int32} {x : Int64} {n e : Nat} (r : RT B M x n e) : f_X12_statement (rfS S ad M x) (ad 1) = some (stW B n e) := by
  have k1 : (nI (km (tkK B n e)) = 1) = (tkK B n e = 1) := km_eq tkK_le (c := 1) (by omega)
  by_cases hk : tkK B n e = 1
  · have x0 := isW_x r hk (i := 0) (by decide) (z := 536622) rfl
    have x1 := isW_x r hk (i := 1) (by decide) (z := 230946943323301) rfl
    have x2 := isW_x r hk (i := 2) (by decide) (z := 51361) rfl
    have x3 := isW_x r hk (i := 3) (by decide) (z := 526004404) rfl
    have x4 := isW_x r hk (i := 4) (by decide) (z := 119705908) rfl
    have x5 := isW_x r hk (i := 5) (by decide) (z := 324946957940) rfl
    have x6 := isW_x r hk (i := 6) (by decide) (z := 1193262) rfl
    have x7 := isW_x r hk (i := 7) (by decide) (z := 6309) rfl
    have x8 := isW_x r hk (i := 8) (by decide) (z := 4370489) rfl
    have x9 := isW_x r hk (i := 9) (by decide) (z := 24627848) rfl
    have k1 : (nI (km (tkK B n e)) = 1) = True := k1.trans (eq_true hk)
    have y1 : (6882755 * 33554432 + 8703141 : Int64) = 230946943323301 := by decide +kernel
    have y3 : (16437637 * 32 + 116 - 96 : Int64) = 526004404 := by decide +kernel
    have y4 : (3740809 * 32 + 116 - 96 : Int64) = 119705908 := by decide +kernel
    have y5 : (9916594 * 32768 + 5748 : Int64) = 324946957940 := by decide +kernel
    simp only [f_X12_statement, lt_n, rfS_I, r.2.2.1, k1, if_true, rfS_J, pk_100_101_108_105_118, pk_100_101_108_97_121, pk_101_114_0_0_0, pk_101_115_116_0_0, pk_102_101_101_0_0, pk_102_114_97_110_99, pk_103_114_97_110_116, pk_104_105_115_101_101, pk_105_103_110_0_0, pk_105_110_116_101_114, pk_110_111_0_0_0, pk_111_117_116_108_101, pk_112_108_97_110_0, pk_112_97_121_0_0, pk_115_97_108_101_115, pk_118_111_116_101_0, pk_119_111_114_116_104, pk_121_101_115_0_0, pk_97_100_109_105_110, pk_97_114_101_97_0, pk_99_108_111_115_101, pk_99_114_101_100_105, pk_99_97_109_112_97, cl_n, y1, y3, y4, y5]
    simp only [x0, x1, x2, x3, x4, x5, x6, x7, x8, x9, stW]
    by_cases w0 : isW B n e 0 = true
    · simp only [w0, if_true, Bool.false_eq_true, if_false]
    simp only [w0, Bool.false_eq_true, if_false]
    by_cases w1 : isW B n e 1 = true
    · simp only [w1, if_true, Bool.false_eq_true, if_false]
    simp only [w1, Bool.false_eq_true, if_false]
    by_cases w2 : isW B n e 2 = true
    · simp only [w2, if_true, Bool.false_eq_true, if_false]
    simp only [w2, Bool.false_eq_true, if_false]
    by_cases w3 : isW B n e 3 = true
    · simp only [w3, if_true, Bool.false_eq_true, if_false]
    simp only [w3, Bool.false_eq_true, if_false]
    by_cases w4 : isW B n e 4 = true
    · simp only [w4, if_true, Bool.false_eq_true, if_false]
    simp only [w4, Bool.false_eq_true, if_false]
    by_cases w5 : isW B n e 5 = true
    · simp only [w5, if_true, Bool.false_eq_true, if_false]
    simp only [w5, Bool.false_eq_true, if_false]
    by_cases w6 : isW B n e 6 = true
    · simp only [w6, if_true, Bool.false_eq_true, if_false]
    simp only [w6, Bool.false_eq_true, if_false]
    by_cases w7 : isW B n e 7 = true
    · simp only [w7, if_true, Bool.false_eq_true, if_false]
    simp only [w7, Bool.false_eq_true, if_false]
    by_cases w8 : isW B n e 8 = true
    · simp only [w8, if_true, Bool.false_eq_true, if_false]
    simp only [w8, Bool.false_eq_true, if_false]
    by_cases w9 : isW B n e 9 = true
    · simp only [w9, if_true, Bool.false_eq_true, if_false]
    simp only [w9, Bool.false_eq_true, if_false]
  · simp only [f_X12_statement, lt_n, rfS_I, r.2.2.1, k1, hk, if_false, stW, isW_n hk, Bool.false_eq_true]
theorem M_entK {B M : Nat → Int32} {x : Int64} {n e : Nat} (r : RT B M x n e) : f_X12_entryKind (rfS S ad M x) (ad 1) = some (enW B n e) := by
  have k1 : (nI (km (tkK B n e)) = 1) = (tkK B n e = 1) := km_eq tkK_le (c := 1) (by omega)
  by_cases hk : tkK B n e = 1
  · have x10 := isW_x r hk (i := 10) (by decide) (z := 19968179) rfl
    have x11 := isW_x r hk (i := 11) (by decide) (z := 4475639986) rfl
    have x12 := isW_x r hk (i := 12) (by decide) (z := 16441) rfl
    have x13 := isW_x r hk (i := 13) (by decide) (z := 7931348) rfl
    have x14 := isW_x r hk (i := 14) (by decide) (z := 104605983982) rfl
    have x15 := isW_x r hk (i := 15) (by decide) (z := 736901) rfl
    have x16 := isW_x r hk (i := 16) (by decide) (z := 3554917) rfl
    have k1 : (nI (km (tkK B n e)) = 1) = True := k1.trans (eq_true hk)
    have y11 : (4370742 * 1024 + 178 : Int64) = 4475639986 := by decide +kernel
    have y14 : (3192321 * 32768 + 9454 : Int64) = 104605983982 := by decide +kernel
    simp only [f_X12_entryKind, lt_n, rfS_I, r.2.2.1, k1, if_true, rfS_J, pk_100_101_108_105_118, pk_100_101_108_97_121, pk_101_114_0_0_0, pk_101_115_116_0_0, pk_102_101_101_0_0, pk_102_114_97_110_99, pk_103_114_97_110_116, pk_104_105_115_101_101, pk_105_103_110_0_0, pk_105_110_116_101_114, pk_110_111_0_0_0, pk_111_117_116_108_101, pk_112_108_97_110_0, pk_112_97_121_0_0, pk_115_97_108_101_115, pk_118_111_116_101_0, pk_119_111_114_116_104, pk_121_101_115_0_0, pk_97_100_109_105_110, pk_97_114_101_97_0, pk_99_108_111_115_101, pk_99_114_101_100_105, pk_99_97_109_112_97, cl_n, y11, y14]
    simp only [x10, x11, x12, x13, x14, x15, x16, enW]
    by_cases w10 : isW B n e 10 = true
    · simp only [w10, if_true, Bool.false_eq_true, if_false]
    simp only [w10, Bool.false_eq_true, if_false]
    by_cases w11 : isW B n e 11 = true
    · simp only [w11, if_true, Bool.false_eq_true, if_false]
    simp only [w11, Bool.false_eq_true, if_false]
    by_cases w12 : isW B n e 12 = true
    · simp only [w12, if_true, Bool.false_eq_true, if_false]
    simp only [w12, Bool.false_eq_true, if_false]
    by_cases w13 : isW B n e 13 = true
    · simp only [w13, if_true, Bool.false_eq_true, if_false]
    simp only [w13, Bool.false_eq_true, if_false]
    by_cases w14 : isW B n e 14 = true
    · simp only [w14, if_true, Bool.false_eq_true, if_false]
    simp only [w14, Bool.false_eq_true, if_false]
    by_cases w15 : isW B n e 15 = true
    · simp only [w15, if_true, Bool.false_eq_true, if_false]
    simp only [w15, Bool.false_eq_true, if_false]
    by_cases w16 : isW B n e 16 = true
    · simp only [w16, if_true, Bool.false_eq_true, if_false]
    simp only [w16, Bool.false_eq_true, if_false]
  · simp only [f_X12_entryKind, lt_n, rfS_I, r.2.2.1, k1, hk, if_false, enW, isW_n hk, Bool.false_eq_true]
