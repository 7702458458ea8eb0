/-! the pure part: closing a month, the first loop -/
variable {S S1 S2 S' S'' S3 : St} {ad : Nat → Nat} {b d j k : Nat} {v v' v1 v2 : Nat → Int64} {np nf no mo no' mo' : Nat}
theorem rtd_N {A B : Nat} (h : A * B + 5000 < 2 ^ 63) : rtd (lN A) (lN B) = lN ((A * B + 5000) / 10000) := by
  unfold rtd
  rw [lN_mul, show (5000 : Int64) = lN 5000 from rfl, lN_add, show (10000 : Int64) = lN 10000 from rfl, pk_lDiv h (by decide) (by decide)]
theorem sls_N (w : WF v np nf no mo) (ho : no ≤ 16) (p : Int32) : ∃ N, N ≤ 10000000 * no ∧ sls v no p 100 = lN N := by
  have := itr_inv (N := no) (f := fun o s => if v (186 + 4 * o + 0) = p.toInt64 then s + (v (186 + 4 * o + 3) * Int32.toInt64 100) / 100 else s) (fun i s => ∃ N, N ≤ 10000000 * i ∧ s = lN N) (fun i s hi ⟨N, hN, e⟩ => ?_) no 0 0 (by omega) ⟨0, by omega, rfl⟩
  · rw [Nat.zero_add] at this; exact this
  · by_cases h : v (186 + 4 * i + 0) = p.toInt64
    · obtain ⟨s', hs', e'⟩ := (w.2.2.2.1 i hi).2
      refine ⟨N + s', by omega, ?_⟩
      simp only [h, if_true, e, e']
      rw [show Int32.toInt64 100 = lN 100 from rfl, lN_mul, show (100 : Int64) = lN 100 from rfl, pk_lDiv (by omega) (by decide) (by decide), Nat.mul_div_cancel _ (by decide), lN_add]
    · exact ⟨N, by omega, by simp only [h, if_false, e]⟩
theorem sls_w (h : ∀ i, 186 ≤ i ∧ i < 250 → v' i = v i) (ho : no ≤ 16) (p q : Int32) : sls v' no p q = sls v no p q := by
  unfold sls
  exact itr_congr no 0 _ (fun o s _ ho' => by rw [h _ (by omega), h _ (by omega)])
theorem am_1 (w : WF v np nf no mo) (hp4 : np ≤ 4) {f N : Nat} (hf : f < nf) (hN : N ≤ 160000000) : ∃ c, c ≤ 16000000 ∧ am v nf f (lN N) 1 = lN c := by
  unfold am
  cases act v f
  · exact ⟨0, by omega, rfl⟩
  · obtain ⟨hp, ep⟩ := pl_N w hp4 hf
    obtain ⟨t, ht, e⟩ := w.2.1 _ hp
    have hb : N * t ≤ 160000000 * 1000 := Nat.mul_le_mul hN ht
    refine ⟨(N * t + 5000) / 10000, by omega, ?_⟩
    simp only [if_true, gA]
    rw [e, rtd_N (by omega)]
theorem am_act {s : Int64} {f : Nat} (h : act v f = false) : am v nf f s = fun _ => 0 := by unfold am; rw [h]; rfl
theorem am_w (h : ∀ i, (4 ≤ i ∧ i ≤ 10) ∨ (14 ≤ i ∧ i < 58) ∨ (1150 ≤ i ∧ i < 1214) → v' i = v i) {f : Nat} (hf : f < nf) (h8 : nf ≤ 8) (hr : ∀ q, q < 16 → v' (58 + 16 * f + q) = v (58 + 16 * f + q)) (hp : plN v f < 4) (h4 : trn v (plN v f) ≤ 4) (s : Int64) : am v' nf f s = am v nf f s := by
  have ec : ∀ x y, x < 8 → y < 8 → crd v' x y = crd v x y := fun x y hx hy => by unfold crd; rw [h 5 (by omega), h 4 (by omega), h (1150 + (8 * x + y)) (by omega)]
  have ea : act v' f = act v f := by unfold act; rw [hr 3 (by decide)]
  have ep : plN v' f = plN v f := by unfold plN; rw [hr 1 (by decide)]
  have et : trn v' (plN v f) = trn v (plN v f) := by unfold trn; rw [h _ (by omega)]
  have eo : owe v' f = owe v f := by unfold owe; rw [hr 4 (by decide)]
  have e1 : crP v' nf f = crP v nf f := itr_congr nf 0 _ (fun g s _ hg => by rw [ec f g (by omega) (by omega)])
  have e2 : crR v' nf f = crR v nf f := itr_congr nf 0 _ (fun g s _ hg => by rw [ec g f (by omega) (by omega)])
  have er : roy v' (plN v f) (trn v (plN v f)) s = roy v (plN v f) (trn v (plN v f)) s := by
    unfold roy
    rw [h (14 + 11 * plN v f + 1) (by omega)]
    rw [itr_congr (trn v (plN v f) + 1) 0 _ (g := roS v (plN v f) s (trn v (plN v f))) (fun i st _ hi => by
      unfold roS
      by_cases e : i = trn v (plN v f)
      · simp only [e, if_true]
      · simp only [e, if_false]
        rw [h (14 + 11 * plN v f + (3 + i)) (by omega), h (14 + 11 * plN v f + (7 + i)) (by omega)])]
  unfold am
  rw [ea, ep, et, er, eo, e1, e2, h 6 (by omega), h (14 + 11 * plN v f + 0) (by omega)]

def bInv (v : Nat → Int64) (mo f : Nat) (a : Nat → Int64) : Nat → Int64 := fun i => if 1694 + 7 * (8 * mo + f) ≤ i ∧ i < 1694 + 7 * (8 * mo + f) + 7 then a (i - (1694 + 7 * (8 * mo + f))) else v i
def bOv (v : Nat → Int64) (f : Nat) : Int64 := if v (58 + 16 * f + 4) ≤ 0 then 0 else v (58 + 16 * f + 6) + 1
def bl1 (v : Nat → Int64) (nf no mo f : Nat) : Nat → Int64 :=
  let s := sls v no (nI f) 100
  let a := am v nf f s
  let v2 := bInv (udt v (1214 + 8 * mo + f) s) mo f a
  let v3 := if act v f then udt v2 (58 + 16 * f + 6) (bOv v f) else v2
  udt (udt v3 (58 + 16 * f + 4) (v (58 + 16 * f + 4) + a 5)) (58 + 16 * f + 7) (v (58 + 16 * f + 7) + a 1)
theorem udt_same {α : Type} {g : Nat → α} {k : Nat} {w : α} (h : w = g k) : udt g k w = g := by
  funext i
  unfold udt
  by_cases e : i = k
  · rw [if_pos e, e, h]
  · rw [if_neg e]
theorem bl1_n {f i : Nat} (h1 : i < 58 + 16 * f ∨ 58 + 16 * f + 16 ≤ i) (h2 : i ≠ 1214 + 8 * mo + f) (h3 : ¬ (1694 + 7 * (8 * mo + f) ≤ i ∧ i < 1694 + 7 * (8 * mo + f) + 7)) : bl1 v nf no mo f i = v i := by
  unfold bl1
  rw [udt_n (by omega), udt_n (by omega)]
  cases act v f
  · simp only [Bool.false_eq_true, if_false]
    rw [bInv, if_neg h3, udt_n h2]
  · simp only [if_true]
    rw [udt_n (by omega), bInv, if_neg h3, udt_n h2]
theorem bl1_q {f q : Nat} (hq : q < 16) (h : q ≠ 4 ∧ q ≠ 6 ∧ q ≠ 7) (hf : f < 8) : bl1 v nf no mo f (58 + 16 * f + q) = v (58 + 16 * f + q) := by
  unfold bl1
  rw [udt_n (by omega), udt_n (by omega)]
  cases act v f
  · simp only [Bool.false_eq_true, if_false]
    rw [bInv, if_neg (by omega), udt_n (by omega)]
  · simp only [if_true]
    rw [udt_n (by omega), bInv, if_neg (by omega), udt_n (by omega)]
theorem cpJ_at {β : Type} {S : St} {a sp c dp n : Nat} {i1 i2 i3 : Int32} {k : St → Option β} (e1 : i1 = nI sp) (e2 : i2 = nI dp) (e3 : i3 = nI n) (h1 : sp + n ≤ gN S a) (h2 : dp + n ≤ gN S c) (h3 : gN S a < 2 ^ 31) (h4 : gN S c < 2 ^ 31) : cpJ S a i1 c i2 i3 k = k (cpyJ S a sp c dp n) := by
  subst e1 e2 e3
  unfold cpJ
  rw [nI_clamp (by omega), nI_clamp (by omega), nI_clamp (by omega), if_neg]
  rintro (h | h | h | h | h)
  · exact nI_pos (by omega) h
  · exact nI_pos (by omega) h
  · exact nI_pos (by omega) h
  · omega
  · omega
/-- the ledger's first loop, one franchisee -/
theorem C_step1 (c : CV S ad b v np nf no mo) (hm : mo < 60) {f g h : Nat} (hf : f < nf) (eg : v (58 + 16 * f + 6) = lN g) (hg : g ≤ 60) (eh : v (58 + 16 * f + 7) = lN h) (hh : h ≤ 960000000) : ∃ S', (cl (f_X1_calculate S (ad b) (nI f) (sls v no (nI f) 100)) fun (S66 : St) => f_X1_bill S66 (ad b) (nI f)) = some S' ∧ MKw S S' ad b v (bl1 v nf no mo f) np nf no mo ∧ gJ S' (ad (b + 7)) 1 = am v nf f (sls v no (nI f) 100) 1 ∧ (∀ i, gJ S' (ad (b + 34)) i = if 7 * (8 * mo + f) ≤ i ∧ i < 7 * (8 * mo + f) + 7 then am v nf f (sls v no (nI f) 100) (i - 7 * (8 * mo + f)) else gJ S (ad (b + 34)) i) ∧ ∀ i, gJ S' (ad (b + 33)) i = gJ S (ad (b + 33)) i := by
  have h8 := c.hf
  have h4 := c.hp
  have h16 := c.ho
  have f8 : f < 8 := by omega
  have hb := c.hb
  have hb2 := c.2.1
  obtain ⟨N, hN, eN⟩ := sls_N c.w c.ho (nI f)
  obtain ⟨c1, hc1, ec1⟩ := am_1 c.w c.hp hf (show N ≤ 160000000 by omega)
  rw [← eN] at ec1
  generalize hs : sls v no (nI f) 100 = s at ec1 ⊢
  generalize ha : am v nf f s = a at ec1 ⊢
  have C7 := CV_p7 c 7 a
  have ta := C7.t
  have rJ : ∀ q l, gJ (cpyJ (pJ S (ad (b + 7)) 7 a) (ad (b + 7)) 0 (ad (b + 34)) (7 * (8 * mo + f)) 7) (ad (b + q)) l = if q = 34 ∧ 7 * (8 * mo + f) ≤ l ∧ l < 7 * (8 * mo + f) + 7 then a (l - 7 * (8 * mo + f)) else if q = 7 ∧ l < 7 then a l else gJ S (ad (b + q)) l := fun q l => by
    rw [gJ_cpyJ, gJ_pJ, gJ_pJ]
    simp only [c.t.1, Nat.add_left_cancel_iff, Nat.zero_add, true_and]
    by_cases e : q = 34 ∧ 7 * (8 * mo + f) ≤ l ∧ l < 7 * (8 * mo + f) + 7
    · rw [if_pos e, if_pos e, if_pos (by omega)]
    · rw [if_neg e, if_neg e]
  have chb : Ch S (cpyJ (pJ S (ad (b + 7)) 7 a) (ad (b + 7)) 0 (ad (b + 34)) (7 * (8 * mo + f)) 7) ad (fun p => ∃ q, (q = 7 ∨ q = 33 ∨ q = 34) ∧ p = b + q) := by
    refine ⟨⟨fun _ _ => rfl, fun _ => rfl⟩, fun p hp hn i => ⟨rfl, ?_⟩, fun _ _ => rfl⟩
    rw [gJ_cpyJ, if_neg (fun e => hn ⟨34, by omega, (c.t.1 _ _).mp e.1⟩), gJ_pJ, if_neg (fun e => hn ⟨7, by omega, (c.t.1 _ _).mp e.1⟩)]
  have m1 : MKw S (cpyJ (pJ S (ad (b + 7)) 7 a) (ad (b + 7)) 0 (ad (b + 34)) (7 * (8 * mo + f)) 7) ad b v (bInv (udt v (1214 + 8 * mo + f) s) mo f a) np nf no mo := by
    refine MKw_row c hm chb (fun i hi => by rw [rJ, if_neg (by omega), if_neg (by omega)]) (fun i hi => by rw [rJ, if_neg (by omega), if_neg (by omega)]) (fun i hi => ?_)
    unfold rowI at hi
    rw [bInv, if_neg (by omega), udt_n (by omega)]
  have cb := m1.cv c
  have hv2 : ∀ q, q < 16 → bInv (udt v (1214 + 8 * mo + f) s) mo f a (58 + 16 * f + q) = v (58 + 16 * f + q) := fun q hq => by rw [bInv, if_neg (by omega), udt_n (by omega)]
  have hinv : f_X0_enterInvoice (pJ S (ad (b + 7)) 7 a) (ad (b + 6)) (nI f) (ad (b + 7)) = some (cpyJ (pJ S (ad (b + 7)) 7 a) (ad (b + 7)) 0 (ad (b + 34)) (7 * (8 * mo + f)) 7) := by
    simp only [f_X0_enterInvoice, f_X0_rowOf, lt_e, cl_s, r_b6_1 ta hb, C7.B.1]
    exact cpJ_at (sp := 0) (dp := 7 * (8 * mo + f)) (n := 7) rfl (by rw [um8, nI_add, um7, Nat.mul_comm, Nat.mul_comm mo 8]) rfl (by rw [n_b7 ta hb]; omega) (by rw [n_b34 ta hb]; omega) (by rw [n_b7 ta hb]; decide) (by rw [n_b34 ta hb]; decide)
  have eact : act (bInv (udt v (1214 + 8 * mo + f) s) mo f a) f = act v f := by unfold act; rw [hv2 3 (by decide)]
  have hcalc := C_calc c hf s
  rw [ha] at hcalc
  cases hact : act v f
  · have a0 : a = fun _ => 0 := by rw [← ha]; exact am_act hact
    have ebl : bl1 v nf no mo f = bInv (udt v (1214 + 8 * mo + f) s) mo f a := by
      unfold bl1
      simp only [hs, ha, hact, Bool.false_eq_true, if_false]
      rw [udt_same (g := bInv _ _ _ _) (by rw [hv2 4 (by decide), a0, Int64.add_zero]), udt_same (by rw [hv2 7 (by decide), a0, Int64.add_zero])]
    refine ⟨_, ?_, by rw [ebl]; exact m1, by rw [rJ]; simp, fun i => by rw [rJ]; simp, fun i => by rw [rJ]; simp⟩
    simp only [hcalc, cl_s, f_X1_bill, lt_e, r_b0_5 ta hb, r_b0_6 ta hb, hinv, r_b0_3 cb.t hb, C_act cb hf, eact, hact, if_bI, Bool.false_eq_true, if_false]
  · obtain ⟨g', hg', eg', hov⟩ : ∃ g', g' ≤ 61 ∧ bOv v f = lN g' ∧ g' = (if v (58 + 16 * f + 4) ≤ 0 then 0 else g + 1) := by
      by_cases e : v (58 + 16 * f + 4) ≤ 0
      · exact ⟨0, by omega, by unfold bOv; rw [if_pos e]; rfl, by rw [if_pos e]⟩
      · exact ⟨g + 1, by omega, by unfold bOv; rw [if_neg e, eg, lN_1], by rw [if_neg e]⟩
    have m2 := MKw_over cb hf hg'
    have cc := m2.cv cb
    have m3 := (MK_bal cc hf (v (58 + 16 * f + 4) + a 5)).w
    have cd := m3.cv cc
    have m4 := MKw_con cd hf (g := h + c1) (by omega)
    have ebl : bl1 v nf no mo f = udt (udt (udt (bInv (udt v (1214 + 8 * mo + f) s) mo f a) (58 + 16 * f + 6) (lN g')) (58 + 16 * f + 4) (v (58 + 16 * f + 4) + a 5)) (58 + 16 * f + 7) (lN (h + c1)) := by
      unfold bl1
      simp only [hs, ha, hact, if_true]
      rw [eg', eh, ec1, lN_add]
    have e25 : gI (cpyJ (pJ S (ad (b + 7)) 7 a) (ad (b + 7)) 0 (ad (b + 34)) (7 * (8 * mo + f)) 7) (ad (b + 25)) f = nI g := by
      have := (cb.F f hf).2.2.2.2.2
      rw [hv2 6 (by decide), eg, ← nI_l (by omega), tl_eq] at this
      exact this.symm
    have eow : owe (bInv (udt v (1214 + 8 * mo + f) s) mo f a) f = owe v f := by unfold owe; rw [hv2 4 (by decide)]
    have ecnd : (owe v f ≤ 0) = (v (58 + 16 * f + 4) ≤ 0) := by
      unfold owe
      by_cases e : 0 < v (58 + 16 * f + 4)
      · rw [if_pos e]
      · rw [if_neg e]; simp [Int64.not_lt.mp e]
    have r26 : gJ (uI (cpyJ (pJ S (ad (b + 7)) 7 a) (ad (b + 7)) 0 (ad (b + 34)) (7 * (8 * mo + f)) 7) (ad (b + 25)) f (nI g')) (ad (b + 26)) f = v (58 + 16 * f + 4) := by
      rw [gJ_uI, rJ, if_neg (by omega), if_neg (by omega)]; exact ((c.F f hf).2.2.2.1).symm
    have r7a : ∀ n, n < 7 → gJ (uI (cpyJ (pJ S (ad (b + 7)) 7 a) (ad (b + 7)) 0 (ad (b + 34)) (7 * (8 * mo + f)) 7) (ad (b + 25)) f (nI g')) (ad (b + 7)) n = a n := fun n hn => by
      rw [gJ_uI, rJ, if_neg (by omega), if_pos ⟨rfl, hn⟩]
    have r7b : ∀ n, n < 7 → gJ (uJ (uI (cpyJ (pJ S (ad (b + 7)) 7 a) (ad (b + 7)) 0 (ad (b + 34)) (7 * (8 * mo + f)) 7) (ad (b + 25)) f (nI g')) (ad (b + 26)) f (v (58 + 16 * f + 4) + a 5)) (ad (b + 7)) n = a n := fun n hn => by
      rw [gJ_i c.t.1, if_neg (by omega)]; exact r7a n hn
    have r36 : gJ (uJ (uI (cpyJ (pJ S (ad (b + 7)) 7 a) (ad (b + 7)) 0 (ad (b + 34)) (7 * (8 * mo + f)) 7) (ad (b + 25)) f (nI g')) (ad (b + 26)) f (v (58 + 16 * f + 4) + a 5)) (ad (b + 36)) f = lN h := by
      rw [gJ_i c.t.1, if_neg (by omega), gJ_uI, rJ, if_neg (by omega), if_neg (by omega), ← (c.B.2.2.2.1 f hf).1, eh]
    refine ⟨_, ?_, by rw [ebl]; exact ((m1.trans m2).trans m3).trans m4, ?_, fun i => ?_, fun i => ?_⟩
    · have l5 : ∀ {β : Type} (k : Int64 → Option β), ldJ (uI (cpyJ (pJ S (ad (b + 7)) 7 a) (ad (b + 7)) 0 (ad (b + 34)) (7 * (8 * mo + f)) 7) (ad (b + 25)) f (nI g')) (ad (b + 7)) 5 k = k (a 5) := fun k => by rw [show (5 : Int32) = nI 5 from rfl, lb7 cc.t hb (by decide), r7a 5 (by decide)]
      have l1 : ∀ {β : Type} (k : Int64 → Option β), ldJ (uJ (uI (cpyJ (pJ S (ad (b + 7)) 7 a) (ad (b + 7)) 0 (ad (b + 34)) (7 * (8 * mo + f)) 7) (ad (b + 25)) f (nI g')) (ad (b + 26)) f (v (58 + 16 * f + 4) + a 5)) (ad (b + 7)) 1 k = k (a 1) := fun k => by rw [show (1 : Int32) = nI 1 from rfl, lb7 cd.t hb (by decide), r7b 1 (by decide)]
      have tail : ∀ (x : Int32), x = nI g' → (stI (cpyJ (pJ S (ad (b + 7)) 7 a) (ad (b + 7)) 0 (ad (b + 34)) (7 * (8 * mo + f)) 7) (ad (b + 25)) (nI f) x fun (S22 : St) => lt (gR S22 (ad b) 3) fun (a23 : Nat) => lt (gR S22 a23 7) fun (a25 : Nat) => ldJ S22 a25 (nI f) fun (v27 : Int64) => lt (gR S22 (ad b) 6) fun (a28 : Nat) => ldJ S22 a28 5 fun (v30 : Int64) => stJ S22 a25 (nI f) (v27 + v30) fun (S31 : St) => lt (gR S31 (ad b) 5) fun (a32 : Nat) => lt (gR S31 a32 3) fun (a34 : Nat) => ldJ S31 a34 (nI f) fun (v36 : Int64) => lt (gR S31 (ad b) 6) fun (a37 : Nat) => ldJ S31 a37 1 fun (v39 : Int64) => stJ S31 a34 (nI f) (v36 + v39) fun (S40 : St) => some S40) = some (uJ (uJ (uI (cpyJ (pJ S (ad (b + 7)) 7 a) (ad (b + 7)) 0 (ad (b + 34)) (7 * (8 * mo + f)) 7) (ad (b + 25)) f (nI g')) (ad (b + 26)) f (v (58 + 16 * f + 4) + a 5)) (ad (b + 36)) f (lN (h + c1))) := by
        rintro x rfl
        simp only [sb25 cb.t hb f8, lt_e, r_b0_3 cc.t hb, r_b4_7 cc.t hb, lb26 cc.t hb f8, r26, r_b0_6 cc.t hb, l5, sb26 cc.t hb f8, r_b0_5 cd.t hb, r_b6_3 cd.t hb, lb36 cd.t hb f8, r36, r_b0_6 cd.t hb, l1, sb36 cd.t hb f8, ec1, lN_add]
      simp only [hcalc, cl_s, f_X1_bill, lt_n, jn_n, r_b0_5 ta hb, r_b0_6 ta hb, hinv, r_b0_3 cb.t hb, C_act cb hf, eact, hact, if_bI, if_true, C_owed cb hf, eow, ecnd, r_b4_6 cb.t hb, lb25 cb.t hb f8, e25]
      simp only [lt_n] at tail
      by_cases e : v (58 + 16 * f + 4) ≤ 0
      · simp only [e, if_true]
        exact tail 0 (by rw [hov, if_pos e, nI_0])
      · simp only [e, if_false, i10]
        exact tail _ (by rw [hov, if_neg e, nI_1])
    · rw [gJ_i c.t.1, if_neg (by omega)]; exact r7b 1 (by decide)
    · rw [gJ_i c.t.1, if_neg (by omega), gJ_i c.t.1, if_neg (by omega), gJ_uI, rJ]; simp
    · rw [gJ_i c.t.1, if_neg (by omega), gJ_i c.t.1, if_neg (by omega), gJ_uI, rJ]; simp
