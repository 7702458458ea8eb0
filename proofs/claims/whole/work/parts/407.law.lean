/-! the pure part: a call of the law's program -/
variable {S S' : St} {ad : Nat → Nat} {b d j k : Nat} {v : Nat → Int64} {np nf no mo : Nat}
def REL (S : St) (ad : Nat → Nat) : Prop := ∃ b d j k v np nf no mo, RE S ad b d j k v np nf no mo
def LF : Type := Nat → (Nat → Int32) → St → Nat → Nat → Nat → Int32 → Nat → (St → Nat → Option Unit) → Option Unit
def StpW (ad : Nat → Nat) (F : LF) : Prop := ∀ (Ls : Nat) (xs : Nat → Int32) (S : St) (c i : Nat), REL S ad → i + 7 ≤ Ls → Ls ≤ 3584 → c + 1 ≤ 512 → ∃ S' c', REL S' ad ∧ c' ≤ c + 1 ∧ ∀ kont, F Ls xs S (ad 0) (ad 1) (ad 2) (nI i) c kont = kont S' c'
theorem sx_at {β : Type} {Ls : Nat} {xs : Nat → Int32} {n : Nat} {k : Int32 → Option β} (hL : Ls ≤ 3584) (hn : n < Ls) : sx Ls xs (nI n) k = k (xs n) := by
  rw [sx, if_neg (nI_in hn (by omega)), nI_clamp (by omega)]
theorem bud_ok {β : Type} {n : Nat} {k : Option β} (h : n ≤ 512) : bud n k = k := if_pos h
theorem clc_l {α β : Type} (a : α) (k : α → Option β) (g : Nat → Option β) : clc (some (.inl a)) k g = k a := rfl
theorem clc_r {α β : Type} (n : Nat) (k : α → Option β) (g : Nat → Option β) : clc (some (.inr n)) k g = g n := rfl
theorem thrown_e (S : St) (m : Nat) (w : Int32) : f_X12_thrown (uI S m 2 w) m = some w := by
  simp [f_X12_thrown, lt_e, gI_uI]
theorem st_o (t : TR S ad) {β : Type} {w : Int64} {k : St → Option β} : stJ S (ad 2) 0 w k = k (uJ S (ad 2) 0 w) := stJ_at (n := 0) (by rw [n_2 t]; decide) (by rw [n_2 t]; decide)
theorem ld_o (t : TR S ad) {β : Type} {w : Int64} {i : Nat} {z : Int32} {k : Int64 → Option β} : ldJ (uI (uJ S (ad 2) 0 w) (ad 1) i z) (ad 2) 0 k = k w := by
  refine (ldJ_at (n := 0) ?_ ?_).trans ?_
  · rw [gN_uI, gN_uJ, n_2 t]; decide
  · rw [gN_uI, gN_uJ, n_2 t]; decide
  · rw [gJ_uI, gJ_uJ, if_pos ⟨rfl, rfl⟩]
/-- behind a query that threw -/
theorem REL_t (r : RE S ad b d j k v np nf no mo) (w : Int32) : REL (uI S (ad 1) 2 w) ad := ⟨b, d, j, k, v, np, nf, no, mo, RE_keep (Ke_t r.1.t r.jb (by simp [MF])) r⟩
/-- behind a query that answered -/
theorem REL_q (r : RE S ad b d j k v np nf no mo) (w : Int64) (z : Int32) : REL (uI (uJ S (ad 2) 0 w) (ad 1) 2 z) ad := by
  have h1 := Ke_o r.1.t r.jb (i := 0) (w := w)
  have t1 := TR_SR0 h1.1 r.1.t
  exact ⟨b, d, j, k, v, np, nf, no, mo, RE_keep (h1.trans (Ke_t t1 r.jb (by simp [MF]))) r⟩
theorem W_11 : StpW ad f_law_11 := by
  intro Ls xs S c i ⟨b, d, j, k, v, np, nf, no, mo, r⟩ hi hL hc
  have cv := r.1
  have t := cv.t
  have s1 : ∀ (β : Type) (k : Int32 → Option β), sx Ls xs (nI i + 1) k = k (xs (i + 1)) := fun β k => by rw [da1, sx_at hL (by omega)]
  cases hB : vin (xs (i + 1)) nf
  · refine ⟨_, c + 1, REL_t r 1, Nat.le_refl _, fun kont => ?_⟩
    simp [f_law_11, f_L_area, s1, C_area cv, M_area r.m, hB, clc_r, cl_s, bud_ok hc, thrown_e, jn_e]
  · refine ⟨_, c, REL_q r (mArea v (xs (i + 1))).toInt64 0, by omega, fun kont => ?_⟩
    have m1 := Mv_o r.m 0 (mArea v (xs (i + 1))).toInt64
    simp [f_law_11, f_L_area, s1, C_area cv, M_area m1, hB, clc_l, cl_s, bud_ok (show c ≤ 512 by omega), thrown_e, jn_e, st_o t, ld_o t]
