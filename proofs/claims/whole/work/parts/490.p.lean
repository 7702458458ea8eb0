/-! the pure part: the law's loop -/
variable {S S' : St} {ad : Nat → Nat}
def lwB (Ls : Nat) (xs : Nat → Int32) (x m o : Nat) (k : Int32 → St → Nat → Option Unit) (i : Int32) (S : St) (c : Nat) : Option Unit := lt (nI Ls) fun (n : Int32) => if (n - 7) < i then (some ()) else (sx Ls xs i fun (v : Int32) => if (v &&& 63) = 0 then (f_law_0 Ls xs S x m o i c (fun S c => k (i + 7) S c)) else (if (v &&& 63) = 1 then (f_law_1 Ls xs S x m o i c (fun S c => k (i + 7) S c)) else (if (v &&& 63) = 2 then (f_law_2 Ls xs S x m o i c (fun S c => k (i + 7) S c)) else (if (v &&& 63) = 3 then (f_law_3 Ls xs S x m o i c (fun S c => k (i + 7) S c)) else (if (v &&& 63) = 4 then (f_law_4 Ls xs S x m o i c (fun S c => k (i + 7) S c)) else (if (v &&& 63) = 5 then (f_law_5 Ls xs S x m o i c (fun S c => k (i + 7) S c)) else (if (v &&& 63) = 6 then (f_law_6 Ls xs S x m o i c (fun S c => k (i + 7) S c)) else (if (v &&& 63) = 7 then (f_law_7 Ls xs S x m o i c (fun S c => k (i + 7) S c)) else (if (v &&& 63) = 8 then (f_law_8 Ls xs S x m o i c (fun S c => k (i + 7) S c)) else (if (v &&& 63) = 9 then (f_law_9 Ls xs S x m o i c (fun S c => k (i + 7) S c)) else (if (v &&& 63) = 10 then (f_law_10 Ls xs S x m o i c (fun S c => k (i + 7) S c)) else (if (v &&& 63) = 11 then (f_law_11 Ls xs S x m o i c (fun S c => k (i + 7) S c)) else (if (v &&& 63) = 12 then (f_law_12 Ls xs S x m o i c (fun S c => k (i + 7) S c)) else (if (v &&& 63) = 13 then (f_law_13 Ls xs S x m o i c (fun S c => k (i + 7) S c)) else (if (v &&& 63) = 14 then (f_law_14 Ls xs S x m o i c (fun S c => k (i + 7) S c)) else (if (v &&& 63) = 15 then (f_law_15 Ls xs S x m o i c (fun S c => k (i + 7) S c)) else (if (v &&& 63) = 16 then (f_law_16 Ls xs S x m o i c (fun S c => k (i + 7) S c)) else (if (v &&& 63) = 17 then (f_law_17 Ls xs S x m o i c (fun S c => k (i + 7) S c)) else (if (v &&& 63) = 18 then (f_law_18 Ls xs S x m o i c (fun S c => k (i + 7) S c)) else (if (v &&& 63) = 19 then (f_law_19 Ls xs S x m o i c (fun S c => k (i + 7) S c)) else (if (v &&& 63) = 20 then (f_law_20 Ls xs S x m o i c (fun S c => k (i + 7) S c)) else (if (v &&& 63) = 21 then (f_law_21 Ls xs S x m o i c (fun S c => k (i + 7) S c)) else (if (v &&& 63) = 22 then (f_law_22 Ls xs S x m o i c (fun S c => k (i + 7) S c)) else (if (v &&& 63) = 23 then (f_law_23 Ls xs S x m o i c (fun S c => k (i + 7) S c)) else (if (v &&& 63) = 24 then (f_law_24 Ls xs S x m o i c (fun S c => k (i + 7) S c)) else (if (v &&& 63) = 25 then (f_law_25 Ls xs S x m o i c (fun S c => k (i + 7) S c)) else (if (v &&& 63) = 26 then (f_law_26 Ls xs S x m o i c (fun S c => k (i + 7) S c)) else (if (v &&& 63) = 27 then (f_law_27 Ls xs S x m o i c (fun S c => k (i + 7) S c)) else (if (v &&& 63) = 28 then (f_law_28 Ls xs S x m o i c (fun S c => k (i + 7) S c)) else (if (v &&& 63) = 29 then (f_law_29 Ls xs S x m o i c (fun S c => k (i + 7) S c)) else (if (v &&& 63) = 30 then (f_law_30 Ls xs S x m o i c (fun S c => k (i + 7) S c)) else (if (v &&& 63) = 31 then (f_law_31 Ls xs S x m o i c (fun S c => k (i + 7) S c)) else (if (v &&& 63) = 32 then (f_law_32 Ls xs S x m o i c (fun S c => k (i + 7) S c)) else (if (v &&& 63) = 33 then (f_law_33 Ls xs S x m o i c (fun S c => k (i + 7) S c)) else (if (v &&& 63) = 34 then (f_law_34 Ls xs S x m o i c (fun S c => k (i + 7) S c)) else (if (v &&& 63) = 35 then (f_law_35 Ls xs S x m o i c (fun S c => k (i + 7) S c)) else (if (v &&& 63) = 36 then (f_law_36 Ls xs S x m o i c (fun S c => k (i + 7) S c)) else (if (v &&& 63) = 37 then (f_law_37 Ls xs S x m o i c (fun S c => k (i + 7) S c)) else (if (v &&& 63) = 38 then (f_law_38 Ls xs S x m o i c (fun S c => k (i + 7) S c)) else (if (v &&& 63) = 39 then (f_law_39 Ls xs S x m o i c (fun S c => k (i + 7) S c)) else (if (v &&& 63) = 40 then (f_law_40 Ls xs S x m o i c (fun S c => k (i + 7) S c)) else (if (v &&& 63) = 41 then (f_law_41 Ls xs S x m o i c (fun S c => k (i + 7) S c)) else (if (v &&& 63) = 42 then (f_law_42 Ls xs S x m o i c (fun S c => k (i + 7) S c)) else (if (v &&& 63) = 43 then (f_law_43 Ls xs S x m o i c (fun S c => k (i + 7) S c)) else (if (v &&& 63) = 44 then (f_law_44 Ls xs S x m o i c (fun S c => k (i + 7) S c)) else (if (v &&& 63) = 45 then (f_law_45 Ls xs S x m o i c (fun S c => k (i + 7) S c)) else (if (v &&& 63) = 46 then (f_law_46 Ls xs S x m o i c (fun S c => k (i + 7) S c)) else (if (v &&& 63) = 47 then (f_law_47 Ls xs S x m o i c (fun S c => k (i + 7) S c)) else (if (v &&& 63) = 48 then (f_law_48 Ls xs S x m o i c (fun S c => k (i + 7) S c)) else (if (v &&& 63) = 49 then (f_law_49 Ls xs S x m o i c (fun S c => k (i + 7) S c)) else (if (v &&& 63) = 50 then (f_law_50 Ls xs S x m o i c (fun S c => k (i + 7) S c)) else (if (v &&& 63) = 51 then (f_law_51 Ls xs S x m o i c (fun S c => k (i + 7) S c)) else (if (v &&& 63) = 52 then (f_law_52 Ls xs S x m o i c (fun S c => k (i + 7) S c)) else (if (v &&& 63) = 53 then (f_law_53 Ls xs S x m o i c (fun S c => k (i + 7) S c)) else (if (v &&& 63) = 54 then (f_law_54 Ls xs S x m o i c (fun S c => k (i + 7) S c)) else (if (v &&& 63) = 55 then (f_law_55 Ls xs S x m o i c (fun S c => k (i + 7) S c)) else (if (v &&& 63) = 56 then (f_law_56 Ls xs S x m o i c (fun S c => k (i + 7) S c)) else (if (v &&& 63) = 57 then (f_law_57 Ls xs S x m o i c (fun S c => k (i + 7) S c)) else (if (v &&& 63) = 58 then (f_law_58 Ls xs S x m o i c (fun S c => k (i + 7) S c)) else (if (v &&& 63) = 59 then (f_law_59 Ls xs S x m o i c (fun S c => k (i + 7) S c)) else (if (v &&& 63) = 60 then (f_law_60 Ls xs S x m o i c (fun S c => k (i + 7) S c)) else (if (v &&& 63) = 61 then (f_law_61 Ls xs S x m o i c (fun S c => k (i + 7) S c)) else (if (v &&& 63) = 62 then (f_law_62 Ls xs S x m o i c (fun S c => k (i + 7) S c)) else (k (i + 7) S c))))))))))))))))))))))))))))))))))))))))))))))))))))))))))))))))
theorem lwE (Ls : Nat) (xs : Nat → Int32) (x m o : Nat) : f_law Ls xs x m o = lp (κ := Int32 → St → Nat → Option Unit) (fun _ _ _ => none) (lwB Ls xs x m o) := by
  unfold f_law; rfl
theorem lw_stp (F : LF) (w : StpW ad F) {Ls : Nat} {xs : Nat → Int32} {c i : Nat} (hr : REL S ad) (hi : i + 7 ≤ Ls) (hL : Ls ≤ 3584) (hc : c + 1 ≤ 512) {kk : Int32 → St → Nat → Option Unit} (hk : ∀ S' c', REL S' ad → c' ≤ c + 1 → kk (nI (i + 7)) S' c' = some ()) : F Ls xs S (ad 0) (ad 1) (ad 2) (nI i) c (fun S c => kk (nI i + 7) S c) = some () := by
  obtain ⟨S', c', h1, h2, h3⟩ := w Ls xs S c i hr hi hL hc
  rw [h3, show nI i + (7 : Int32) = nI (i + 7) from nI_add i 7]
  exact hk S' c' h1 h2
theorem law_ok {Ls : Nat} {xs : Nat → Int32} (hL : Ls ≤ 3584) : ∀ (m i : Nat) (S : St) (c fuel : Nat), 1 ≤ m → Ls < i + 7 * m → m ≤ fuel → i ≤ 3584 → 7 * c ≤ i → REL S ad → f_law Ls xs (ad 0) (ad 1) (ad 2) fuel (nI i) S c = some () := by
  intro m
  induction m with
  | zero => intro i S c fuel h0; omega
  | succ m ih =>
    intro i S c fuel _ h1 h2 h3 h4 hr
    obtain ⟨F, rfl⟩ : ∃ F', fuel = F' + 1 := ⟨fuel - 1, by omega⟩
    rw [lwE, lp_s, lwB, lt_n]
    by_cases hi : i + 7 ≤ Ls
    · have n0 : ¬ nI Ls - 7 < nI i := by
        rw [show (7 : Int32) = nI 7 from rfl, nI_sub (by omega), nI_ltI (by omega) (by omega)]; omega
      rw [if_neg n0, sx_at hL (by omega)]
      have hk : ∀ S' c', REL S' ad → c' ≤ c + 1 → lp (κ := Int32 → St → Nat → Option Unit) (fun _ _ _ => none) (lwB Ls xs (ad 0) (ad 1) (ad 2)) F (nI (i + 7)) S' c' = some () := fun S' c' hr' hc' => by
        have := ih (i + 7) S' c' F (by omega) (by omega) (by omega) (by omega) (by omega) hr'
        rw [lwE] at this
        exact this
      generalize xs i &&& 63 = w
      by_cases q0 : w = 0
      · rw [if_pos q0]; exact lw_stp _ W_0 hr hi hL (by omega) hk
      rw [if_neg q0]
      by_cases q1 : w = 1
      · rw [if_pos q1]; exact lw_stp _ W_1 hr hi hL (by omega) hk
      rw [if_neg q1]
      by_cases q2 : w = 2
      · rw [if_pos q2]; exact lw_stp _ W_2 hr hi hL (by omega) hk
      rw [if_neg q2]
      by_cases q3 : w = 3
      · rw [if_pos q3]; exact lw_stp _ W_3 hr hi hL (by omega) hk
      rw [if_neg q3]
      by_cases q4 : w = 4
      · rw [if_pos q4]; exact lw_stp _ W_4 hr hi hL (by omega) hk
      rw [if_neg q4]
      by_cases q5 : w = 5
      · rw [if_pos q5]; exact lw_stp _ W_5 hr hi hL (by omega) hk
      rw [if_neg q5]
      by_cases q6 : w = 6
      · rw [if_pos q6]; exact lw_stp _ W_6 hr hi hL (by omega) hk
      rw [if_neg q6]
      by_cases q7 : w = 7
      · rw [if_pos q7]; exact lw_stp _ W_7 hr hi hL (by omega) hk
      rw [if_neg q7]
      by_cases q8 : w = 8
      · rw [if_pos q8]; exact lw_stp _ W_8 hr hi hL (by omega) hk
      rw [if_neg q8]
      by_cases q9 : w = 9
      · rw [if_pos q9]; exact lw_stp _ W_9 hr hi hL (by omega) hk
      rw [if_neg q9]
      by_cases q10 : w = 10
      · rw [if_pos q10]; exact lw_stp _ W_10 hr hi hL (by omega) hk
      rw [if_neg q10]
      by_cases q11 : w = 11
      · rw [if_pos q11]; exact lw_stp _ W_11 hr hi hL (by omega) hk
      rw [if_neg q11]
      by_cases q12 : w = 12
      · rw [if_pos q12]; exact lw_stp _ W_12 hr hi hL (by omega) hk
      rw [if_neg q12]
      by_cases q13 : w = 13
      · rw [if_pos q13]; exact lw_stp _ W_13 hr hi hL (by omega) hk
      rw [if_neg q13]
      by_cases q14 : w = 14
      · rw [if_pos q14]; exact lw_stp _ W_14 hr hi hL (by omega) hk
      rw [if_neg q14]
      by_cases q15 : w = 15
      · rw [if_pos q15]; exact lw_stp _ W_15 hr hi hL (by omega) hk
      rw [if_neg q15]
      by_cases q16 : w = 16
      · rw [if_pos q16]; exact lw_stp _ W_16 hr hi hL (by omega) hk
      rw [if_neg q16]
      by_cases q17 : w = 17
      · rw [if_pos q17]; exact lw_stp _ W_17 hr hi hL (by omega) hk
      rw [if_neg q17]
      by_cases q18 : w = 18
      · rw [if_pos q18]; exact lw_stp _ W_18 hr hi hL (by omega) hk
      rw [if_neg q18]
      by_cases q19 : w = 19
      · rw [if_pos q19]; exact lw_stp _ W_19 hr hi hL (by omega) hk
      rw [if_neg q19]
      by_cases q20 : w = 20
      · rw [if_pos q20]; exact lw_stp _ W_20 hr hi hL (by omega) hk
      rw [if_neg q20]
      by_cases q21 : w = 21
      · rw [if_pos q21]; exact lw_stp _ W_21 hr hi hL (by omega) hk
      rw [if_neg q21]
      by_cases q22 : w = 22
      · rw [if_pos q22]; exact lw_stp _ W_22 hr hi hL (by omega) hk
      rw [if_neg q22]
      by_cases q23 : w = 23
      · rw [if_pos q23]; exact lw_stp _ W_23 hr hi hL (by omega) hk
      rw [if_neg q23]
      by_cases q24 : w = 24
      · rw [if_pos q24]; exact lw_stp _ W_24 hr hi hL (by omega) hk
      rw [if_neg q24]
      by_cases q25 : w = 25
      · rw [if_pos q25]; exact lw_stp _ W_25 hr hi hL (by omega) hk
      rw [if_neg q25]
      by_cases q26 : w = 26
      · rw [if_pos q26]; exact lw_stp _ W_26 hr hi hL (by omega) hk
      rw [if_neg q26]
      by_cases q27 : w = 27
      · rw [if_pos q27]; exact lw_stp _ W_27 hr hi hL (by omega) hk
      rw [if_neg q27]
      by_cases q28 : w = 28
      · rw [if_pos q28]; exact lw_stp _ W_28 hr hi hL (by omega) hk
      rw [if_neg q28]
      by_cases q29 : w = 29
      · rw [if_pos q29]; exact lw_stp _ W_29 hr hi hL (by omega) hk
      rw [if_neg q29]
      by_cases q30 : w = 30
      · rw [if_pos q30]; exact lw_stp _ W_30 hr hi hL (by omega) hk
      rw [if_neg q30]
      by_cases q31 : w = 31
      · rw [if_pos q31]; exact lw_stp _ W_31 hr hi hL (by omega) hk
      rw [if_neg q31]
      by_cases q32 : w = 32
      · rw [if_pos q32]; exact lw_stp _ W_32 hr hi hL (by omega) hk
      rw [if_neg q32]
      by_cases q33 : w = 33
      · rw [if_pos q33]; exact lw_stp _ W_33 hr hi hL (by omega) hk
      rw [if_neg q33]
      by_cases q34 : w = 34
      · rw [if_pos q34]; exact lw_stp _ W_34 hr hi hL (by omega) hk
      rw [if_neg q34]
      by_cases q35 : w = 35
      · rw [if_pos q35]; exact lw_stp _ W_35 hr hi hL (by omega) hk
      rw [if_neg q35]
      by_cases q36 : w = 36
      · rw [if_pos q36]; exact lw_stp _ W_36 hr hi hL (by omega) hk
      rw [if_neg q36]
      by_cases q37 : w = 37
      · rw [if_pos q37]; exact lw_stp _ W_37 hr hi hL (by omega) hk
      rw [if_neg q37]
      by_cases q38 : w = 38
      · rw [if_pos q38]; exact lw_stp _ W_38 hr hi hL (by omega) hk
      rw [if_neg q38]
      by_cases q39 : w = 39
      · rw [if_pos q39]; exact lw_stp _ W_39 hr hi hL (by omega) hk
      rw [if_neg q39]
      by_cases q40 : w = 40
      · rw [if_pos q40]; exact lw_stp _ W_40 hr hi hL (by omega) hk
      rw [if_neg q40]
      by_cases q41 : w = 41
      · rw [if_pos q41]; exact lw_stp _ W_41 hr hi hL (by omega) hk
      rw [if_neg q41]
      by_cases q42 : w = 42
      · rw [if_pos q42]; exact lw_stp _ W_42 hr hi hL (by omega) hk
      rw [if_neg q42]
      by_cases q43 : w = 43
      · rw [if_pos q43]; exact lw_stp _ W_43 hr hi hL (by omega) hk
      rw [if_neg q43]
      by_cases q44 : w = 44
      · rw [if_pos q44]; exact lw_stp _ W_44 hr hi hL (by omega) hk
      rw [if_neg q44]
      by_cases q45 : w = 45
      · rw [if_pos q45]; exact lw_stp _ W_45 hr hi hL (by omega) hk
      rw [if_neg q45]
      by_cases q46 : w = 46
      · rw [if_pos q46]; exact lw_stp _ W_46 hr hi hL (by omega) hk
      rw [if_neg q46]
      by_cases q47 : w = 47
      · rw [if_pos q47]; exact lw_stp _ W_47 hr hi hL (by omega) hk
      rw [if_neg q47]
      by_cases q48 : w = 48
      · rw [if_pos q48]; exact lw_stp _ W_48 hr hi hL (by omega) hk
      rw [if_neg q48]
      by_cases q49 : w = 49
      · rw [if_pos q49]; exact lw_stp _ W_49 hr hi hL (by omega) hk
      rw [if_neg q49]
      by_cases q50 : w = 50
      · rw [if_pos q50]; exact lw_stp _ W_50 hr hi hL (by omega) hk
      rw [if_neg q50]
      by_cases q51 : w = 51
      · rw [if_pos q51]; exact lw_stp _ W_51 hr hi hL (by omega) hk
      rw [if_neg q51]
      by_cases q52 : w = 52
      · rw [if_pos q52]; exact lw_stp _ W_52 hr hi hL (by omega) hk
      rw [if_neg q52]
      by_cases q53 : w = 53
      · rw [if_pos q53]; exact lw_stp _ W_53 hr hi hL (by omega) hk
      rw [if_neg q53]
      by_cases q54 : w = 54
      · rw [if_pos q54]; exact lw_stp _ W_54 hr hi hL (by omega) hk
      rw [if_neg q54]
      by_cases q55 : w = 55
      · rw [if_pos q55]; exact lw_stp _ W_55 hr hi hL (by omega) hk
      rw [if_neg q55]
      by_cases q56 : w = 56
      · rw [if_pos q56]; exact lw_stp _ W_56 hr hi hL (by omega) hk
      rw [if_neg q56]
      by_cases q57 : w = 57
      · rw [if_pos q57]; exact lw_stp _ W_57 hr hi hL (by omega) hk
      rw [if_neg q57]
      by_cases q58 : w = 58
      · rw [if_pos q58]; exact lw_stp _ W_58 hr hi hL (by omega) hk
      rw [if_neg q58]
      by_cases q59 : w = 59
      · rw [if_pos q59]; exact lw_stp _ W_59 hr hi hL (by omega) hk
      rw [if_neg q59]
      by_cases q60 : w = 60
      · rw [if_pos q60]; exact lw_stp _ W_60 hr hi hL (by omega) hk
      rw [if_neg q60]
      by_cases q61 : w = 61
      · rw [if_pos q61]; exact lw_stp _ W_61 hr hi hL (by omega) hk
      rw [if_neg q61]
      by_cases q62 : w = 62
      · rw [if_pos q62]; exact lw_stp _ W_62 hr hi hL (by omega) hk
      rw [if_neg q62]
      rw [show nI i + (7 : Int32) = nI (i + 7) from nI_add i 7]
      exact hk S c hr (by omega)
    · have n0 : nI Ls - 7 < nI i := by
        by_cases h7 : 7 ≤ Ls
        · rw [show (7 : Int32) = nI 7 from rfl, nI_sub h7, nI_ltI (by omega) (by omega)]; omega
        · have e : nI Ls - nI 7 < 0 := nI_neg_lt (by omega) (by decide)
          rw [show (7 : Int32) = nI 7 from rfl, Int32.lt_iff_toInt_lt, nI_toInt (by omega)]
          rw [Int32.lt_iff_toInt_lt, show (0 : Int32).toInt = 0 from rfl] at e
          omega
      rw [if_pos n0]
