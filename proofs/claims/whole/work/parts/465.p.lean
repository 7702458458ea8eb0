/-! the pure part: the journal is run -/
variable {S S0 S1 S2 S' S'' S3 X Y : St} {ad : Nat → Nat} {b d j k : Nat} {v v0 v' v1 v2 u w : Nat → Int64} {np nf no mo no' mo' x y : Nat}
def rjC (p0 : Nat) (v8 : Int32) (fuel : Nat) (x i : Int32) (S : St) : Option ((Int32 × St) ⊕ Nat) := lp (κ := Int32 → Int32 → St → Option ((Int32 × St) ⊕ Nat)) (fun _ _ _ => none) (fun k16 x13 x14 S15 => if v8 ≤ x14 then (some (.inl (x13, S15))) else (lt (gR S15 p0 7) fun (a18 : Nat) => lt (gR S15 p0 5) fun (a20 : Nat) => cl (f_X5_executeNext S15 a18 a20) fun (o22 : Int32 × St) => jn (κ := Int32 → Option ((Int32 × St) ⊕ Nat)) (fun x23 => k16 x23 (x14 + 1) o22.2) fun k24 => if o22.1 = 0 then (k24 x13) else (k24 (x13 + 1)))) fuel x i S
def rjM (p0 : Nat) (p1 : Int32) (fuel : Nat) (x i : Int32) (S : St) : Option (Int32 × St) := lp (κ := Int32 → Int32 → St → Option (Int32 × St)) (fun _ _ _ => none) (fun k14 x11 x12 S13 => if p1 ≤ x12 then (some (x11, S13)) else (lt (gI S13 p0 20) fun (v16 : Int32) => lt (gI S13 p0 19) fun (v17 : Int32) => if v17 ≤ v16 then (some (x11, S13)) else (cl (f_X12_execute S13 p0) fun (o18 : Int32 × St) => jn (κ := Int32 → Option (Int32 × St)) (fun x19 => lt (x11 + x19) fun (v22 : Int32) => lt (gI o18.2 p0 20) fun (v23 : Int32) => lt (uI o18.2 p0 20 (v23 + 1)) fun (S24 : St) => k14 v22 (x12 + 1) S24) fun k20 => if o18.1 = 0 then (k20 0) else (k20 1)))) fuel x i S
def rjCT (S : St) (p0 : Nat) (v8 : Int32) : Option ((Int32 × St) ⊕ Nat) := jn (κ := Int32 → St → Option ((Int32 × St) ⊕ Nat)) (fun x9 S10 => some (.inl (x9, S10))) fun k11 => lp (κ := Int32 → Int32 → St → Option ((Int32 × St) ⊕ Nat)) (fun _ _ _ => none) (fun k16 x13 x14 S15 => if v8 ≤ x14 then (k11 x13 S15) else (lt (gR S15 p0 7) fun (a18 : Nat) => lt (gR S15 p0 5) fun (a20 : Nat) => cl (f_X5_executeNext S15 a18 a20) fun (o22 : Int32 × St) => jn (κ := Int32 → Option ((Int32 × St) ⊕ Nat)) (fun x23 => k16 x23 (x14 + 1) o22.2) fun k24 => if o22.1 = 0 then (k24 x13) else (k24 (x13 + 1)))) FU 0 0 S
def rjMT (S : St) (p0 : Nat) (p1 : Int32) : Option (Int32 × St) := jn (κ := Int32 → St → Option (Int32 × St)) (fun x7 S8 => some (x7, S8)) fun k9 => lp (κ := Int32 → Int32 → St → Option (Int32 × St)) (fun _ _ _ => none) (fun k14 x11 x12 S13 => if p1 ≤ x12 then (k9 x11 S13) else (lt (gI S13 p0 20) fun (v16 : Int32) => lt (gI S13 p0 19) fun (v17 : Int32) => if v17 ≤ v16 then (k9 x11 S13) else (cl (f_X12_execute S13 p0) fun (o18 : Int32 × St) => jn (κ := Int32 → Option (Int32 × St)) (fun x19 => lt (x11 + x19) fun (v22 : Int32) => lt (gI o18.2 p0 20) fun (v23 : Int32) => lt (uI o18.2 p0 20 (v23 + 1)) fun (S24 : St) => k14 v22 (x12 + 1) S24) fun k20 => if o18.1 = 0 then (k20 0) else (k20 1)))) FU 0 0 S
theorem rjCE (S : St) (p0 : Nat) (p1 : Int32) : f_X11_runJournal S p0 p1 = (jn (κ := Int32 → Option ((Int32 × St) ⊕ Nat)) (fun x1 => clx (f_X11_requireArgument S x1) fun (u4 : Unit) => lt (gR S p0 7) fun (a5 : Nat) => cl (f_X5_left S a5) fun (v7 : Int32) => lt (if v7 < p1 then v7 else p1) fun (v8 : Int32) => rjCT S p0 v8) fun k2 => jn (κ := Option ((Int32 × St) ⊕ Nat)) (k2 0) fun k26 => if p1 < 1 then (k26) else (if 40 < p1 then (k26) else (k2 1))) := by
  unfold f_X11_runJournal rjCT
  rfl
theorem rjME (S : St) (p0 : Nat) (p1 : Int32) : f_X12_runJournal S p0 p1 = (lt (uI S p0 2 0) fun (S1 : St) => cl (f_X12_inRange S1 (Int32.toInt64 p1) 1 40) fun (v2 : Int32) => jn (κ := Int32 → Option (Int32 × St)) (fun x3 => cl (f_X12_throwsIf S1 p0 x3 1) fun (o6 : Int32 × St) => if o6.1 = 0 then (rjMT o6.2 p0 p1) else (some (0, o6.2))) fun k4 => if v2 = 0 then (k4 1) else (k4 0)) := by
  unfold f_X12_runJournal rjMT
  rfl
theorem rjCT_e (S : St) (p0 : Nat) (v8 : Int32) : rjCT S p0 v8 = rjC p0 v8 FU 0 0 S := by
  unfold rjCT rjC
  rw [jn_n]
theorem rjMT_e (S : St) (p0 : Nat) (p1 : Int32) : rjMT S p0 p1 = rjM p0 p1 FU 0 0 S := by
  unfold rjMT rjM
  rw [jn_n]
theorem rjC_stop (p0 : Nat) {v8 i : Int32} (n : Nat) (x : Int32) (S : St) (h : v8 ≤ i) : rjC p0 v8 (n + 1) x i S = some (.inl (x, S)) := by
  unfold rjC
  rw [lp_s, if_pos h]
theorem rjC_step (p0 : Nat) {v8 i : Int32} (n : Nat) (x : Int32) (S : St) (h : ¬ v8 ≤ i) {B : Bool} {S1 : St} (hx : f_X5_executeNext S (gR S p0 7) (gR S p0 5) = some (bI B, S1)) : rjC p0 v8 (n + 1) x i S = rjC p0 v8 n (x + bI B) (i + 1) S1 := by
  unfold rjC
  rw [lp_s, if_neg h, lt_n, lt_n, hx, cl_n, jn_n]
  cases B
  · rw [if_pos (show ((bI false, S1) : Int32 × St).1 = 0 from rfl)]
    rw [show x + bI false = x from Int32.add_zero x]
    try rfl
  · rw [if_neg (show ¬ ((bI true, S1) : Int32 × St).1 = 0 from (by decide : ¬ bI true = 0))]; rfl
theorem rjM_stop (p0 : Nat) {p1 i : Int32} (n : Nat) (x : Int32) (S : St) (h : p1 ≤ i ∨ gI S p0 19 ≤ gI S p0 20) : rjM p0 p1 (n + 1) x i S = some (x, S) := by
  unfold rjM
  rw [lp_s]
  by_cases h1 : p1 ≤ i
  · rw [if_pos h1]
  · rw [if_neg h1, lt_n, lt_n, if_pos (h.elim (fun z => absurd z h1) id)]
theorem rjM_step (p0 : Nat) {p1 i : Int32} (n : Nat) (x : Int32) (S : St) (h : ¬ p1 ≤ i) (h2 : ¬ gI S p0 19 ≤ gI S p0 20) {B : Bool} {S1 : St} (hx : f_X12_execute S p0 = some (bI B, S1)) : rjM p0 p1 (n + 1) x i S = rjM p0 p1 n (x + bI B) (i + 1) (uI S1 p0 20 (gI S1 p0 20 + 1)) := by
  unfold rjM
  rw [lp_s, if_neg h, lt_n, lt_n, if_neg h2, hx, cl_n, jn_n]
  cases B
  · rw [if_pos (show ((bI false, S1) : Int32 × St).1 = 0 from rfl)]; rfl
  · rw [if_neg (show ¬ ((bI true, S1) : Int32 × St).1 = 0 from (by decide : ¬ bI true = 0))]; rfl
/-- what the chain of entries needs of the ledger -/
def JLs (S : St) (ad : Nat → Nat) (j nf sz : Nat) (R : Nat → Int32) : Prop := sz ≤ 40 ∧ gI S (ad j) 7 = nI sz ∧ ∀ e, e < sz → ENT nf (gI S (ad (j + 1)) e) (gI S (ad (j + 2)) e) (gI S (ad (j + 3)) e) (gI S (ad (j + 4)) e) (gI S (ad (j + 5)) e) (gI S (ad (j + 6)) e) (gJ S (ad (j + 7)) e) (fun i => R (5 * e + i))
theorem J_one (c : CV S ad b v np nf no mo) (ws : WS v nf mo) (hj : JB j) {e sz : Nat} {R : Nat → Int32} (jl : JLs S ad j nf sz R) (he : e < sz) (h8 : gI S (ad j) 8 = nI e) : EX1 S (uI S (ad j) 8 (nI (e + 1))) ad b j e v np nf no mo (fun i => R (5 * e + i)) := by
  obtain ⟨hs, h7, hE⟩ := jl
  obtain ⟨h0, hd⟩ := hE e he
  rcases hd with ⟨hk, h1, h4, ⟨s, s16, hsb⟩, a, ha, hra⟩ | ⟨hk, h1, h2, h3, h4, ⟨s, s16, hsb⟩, ⟨x, hx, hxc⟩, ⟨y, hy, hyc⟩, a, ha1, ha, hra⟩ | ⟨hk, h1, h4, ⟨s, hsf, hsb⟩, a, ha1, ha, hra⟩ | ⟨hk, h4, a, ha1, ha, hra⟩ | ⟨hk, h1, h2, h3, ⟨s, hsf, hsb⟩, ⟨m, hm, hmb⟩, hy⟩ | hk
  · exact E_sales c hj he hs h7 h8 hk (h0.trans hk) (h1.symm.trans hsb) hra hsb (by rw [h4, hra]) s16 ha
  · exact E_deliver c hj he hs h7 h8 hk (h0.trans hk) (h1.symm.trans hsb) (h2.symm.trans hxc) (h3.symm.trans hyc) hra hsb hxc hyc (by rw [h4, hra]) s16 hx hy ha1 ha
  · rcases hk with hk | hk
    · exact E_pay c hj he hs h7 h8 hk (h0.trans hk) (h1.symm.trans hsb) hra hsb (by rw [h4, hra]) hsf ha1 ha
    · exact E_grant c hj he hs h7 h8 hk (h0.trans hk) (h1.symm.trans hsb) hra hsb (by rw [h4, hra]) hsf ha1 ha
  · exact E_campaign c hj he hs h7 h8 hk (h0.trans hk) hra (by rw [h4, hra]) ha1 ha
  · exact E_vote c hj he hs h7 h8 hk (h0.trans hk) (h1.symm.trans hsb) (h2.symm.trans hmb) h3.symm hsb hmb rfl hsf hm hy
  · exact E_close c hj he hs h7 h8 hk (h0.trans hk) ws
theorem uI_id {a i : Nat} {w : Int32} (h : gI S a i = w) : uI S a i w = S := by
  refine St_I (fun x y => ?_) rfl
  rw [gI_uI]
  by_cases e : x = a ∧ y = i
  · rw [if_pos e, e.1, e.2, h]
  · rw [if_neg e]
theorem Ch_cj (hc : Ch X Y ad (MPc b)) (t : TR X ad) {p i : Nat} {w : Int32} : Ch (uI X (ad p) i w) (uI Y (ad p) i w) ad (MPc b) := by
  refine ⟨⟨fun a l => hc.1.1 a l, fun a => hc.1.2 a⟩, fun q hq hn l => ?_, fun l hl => ?_⟩
  · have := hc.2.1 q hq hn l
    rw [gI_uI, gI_uI, gJ_uI, gJ_uI, this.1, this.2]
    exact ⟨rfl, rfl⟩
  · rw [gI_uI, gI_uI, hc.2.2 l hl]
theorem Ch_cr (hc : Ch X Y ad MPr) (t : TR X ad) {p i : Nat} {w : Int32} : Ch (uI X (ad p) i w) (uI Y (ad p) i w) ad MPr := by
  refine ⟨⟨fun a l => hc.1.1 a l, fun a => hc.1.2 a⟩, fun q hq hn l => ?_, fun l hl => ?_⟩
  · have := hc.2.1 q hq hn l
    rw [gI_uI, gI_uI, gJ_uI, gJ_uI, this.1, this.2]
    exact ⟨rfl, rfl⟩
  · rw [gI_uI, gI_uI, hc.2.2 l hl]
theorem MK_cj (m : MK X Y ad b v v' np nf no' mo') (t : TR X ad) {p i : Nat} {w : Int32} (hp : ∀ q, BR q → b + q ≠ p) : MK (uI X (ad p) i w) (uI Y (ad p) i w) ad b v v' np nf no' mo' := by
  have tY := m.1.t t
  obtain ⟨h1, ax, rest⟩ := m
  exact ⟨Ch_cj h1 t, AXs_c (fun q hq => Ag_uI tY (hp q hq)) ax, rest⟩
theorem RK_mv (mk : MK X Y ad b v v' np nf no' mo') (h : Mv S' ad v np nf no mo) (rk : RK S' S3 ad v') : Mv S3 ad v' np nf no' mo' := by
  obtain ⟨-, -, -, ht, -, h3, h0, ho, hm, -⟩ := mk
  obtain ⟨t, -, g1, g2, -, -, b1, b2, -, -⟩ := h
  exact ⟨rk.1.t t, rk.2.2, (ht.1 1 (by omega)).trans g1, (ht.1 2 (by omega)).trans g2, h3, h0, b1, b2, ho, hm⟩
/-- the chain: m entries from the entry e on -/
theorem J_chain (hj : JB j) {sz : Nat} {R : Nat → Int32} {D p1 : Int32} : ∀ (m i e : Nat) (S : St) (v : Nat → Int64) (no mo : Nat), CV S ad b v np nf no mo → gR S (ad 0) 7 = ad j → WS v nf mo → JLs S ad j nf sz R → gI S (ad j) 8 = nI e → e + m ≤ sz → i + m ≤ 40 → D = nI (i + m) → (p1 = nI (i + m) ∨ (e + m = sz ∧ nI (i + m) < p1)) →
    ∃ N S1 v' no' mo', (∀ fuel x, m < fuel → rjC (ad 0) D fuel x (nI i) S = some (.inl (x + N, S1))) ∧ MK (uI S (ad j) 8 (nI (e + m))) S1 ad b v v' np nf no' mo' ∧ ∀ S', Mv S' ad v np nf no mo → gI S' (ad 1) 2 = 0 → gI S' (ad 1) 19 = nI sz → gI S' (ad 1) 20 = nI e → (∀ l, gI S' (ad 10) l = R l) → ∃ S3, (∀ fuel x, m < fuel → rjM (ad 1) p1 fuel x (nI i) S' = some (x + N, S3)) ∧ RK (uI S' (ad 1) 20 (nI (e + m))) S3 ad v' := by
  intro m
  induction m with
  | zero =>
    intro i e S v no mo c h7 ws jl h8 he hi hD hp
    have hs := jl.1
    refine ⟨0, S, v, no, mo, fun fuel x hf => ?_, ?_, fun S' h h2 h19 h20 h10 => ⟨S', fun fuel x hf => ?_, ?_⟩⟩
    · obtain ⟨F, rfl⟩ : ∃ F', fuel = F' + 1 := ⟨fuel - 1, by omega⟩
      rw [rjC_stop (ad 0) F x S (by rw [hD, nI_leI (by omega) (by omega)]; omega), Int32.add_zero]
    · rw [uI_id (by rw [h8]; rfl)]; exact MK.rf c
    · obtain ⟨F, rfl⟩ : ∃ F', fuel = F' + 1 := ⟨fuel - 1, by omega⟩
      rw [rjM_stop (ad 1) F x S' ?_, Int32.add_zero]
      rcases hp with hp | ⟨hp, -⟩
      · left; rw [hp, nI_leI (by omega) (by omega)]; omega
      · right; rw [h19, h20, nI_leI (by omega) (by omega)]; omega
    · rw [uI_id (by rw [h20]; rfl)]
      exact ⟨Ch.rf, h2, h.2.1⟩
  | succ m ih =>
    intro i e S v no mo c h7 ws jl h8 he hi hD hp
    have hs := jl.1
    have t := c.t
    have hb := c.2.1
    obtain ⟨B, Sa, va, noa, moa, hx, mk, hy⟩ := J_one c ws hj jl (show e < sz by omega) h8
    have t6 : TR (uI S (ad j) 8 (nI (e + 1))) ad := TR_SR0 (SR0_uI _ _ _ _) t
    have c6 := CV_j c hj 8 (nI (e + 1))
    have ca := mk.cv c6
    have chA := mk.1
    have keep : ∀ p, p ≠ 1 → ¬ MPc b p → p ≠ j → Ag S Sa ad p := fun p hp hn hpj => (Ag_uI t hpj).trans (chA.2.1 p hp hn)
    have nm : ∀ q, q ≤ 7 → ¬ MPc b (j + q) := by
      rintro q hq (h | ⟨z, hz, h⟩)
      · unfold JB at hj; omega
      · unfold MQ2 at hz; unfold JB at hj; omega
    have kj : ∀ l, gI Sa (ad j) l = gI (uI S (ad j) 8 (nI (e + 1))) (ad j) l := fun l => (chA.2.1 j (by unfold JB at hj; omega) (nm 0 (by omega)) l).1
    have jla : JLs Sa ad j nf sz R := by
      refine ⟨hs, ?_, fun l hl => ?_⟩
      · rw [kj, gI_uI, if_neg (fun z => absurd z.2 (by decide))]; exact jl.2.1
      · have a : ∀ q, 1 ≤ q → q ≤ 7 → Ag S Sa ad (j + q) := fun q h1 h2 => keep (j + q) (by unfold JB at hj; omega) (nm q h2) (by omega)
        rw [(a 1 (by omega) (by omega) l).1, (a 2 (by omega) (by omega) l).1, (a 3 (by omega) (by omega) l).1, (a 4 (by omega) (by omega) l).1, (a 5 (by omega) (by omega) l).1, (a 6 (by omega) (by omega) l).1, (a 7 (by omega) (by omega) l).2]
        exact jl.2.2 l hl
    have h8a : gI Sa (ad j) 8 = nI (e + 1) := by rw [kj, gI_uI, if_pos ⟨rfl, rfl⟩]
    have h7a : gR Sa (ad 0) 7 = ad j := ((chA.1.1 _ _).trans rfl).trans h7
    have wsa : WS va nf moa := mk.2.2.2.2.2.2.2.2.2 mo c.m.2.2.2.2.2.1 c.hm ws
    obtain ⟨N, S1, v', no', mo', g1, g2, g3⟩ := ih (i + 1) (e + 1) Sa va noa moa ca h7a wsa jla h8a (by omega) (by omega) (by rw [hD]; congr 1; omega) (by rw [show i + 1 + m = i + (m + 1) by omega, show e + 1 + m = e + (m + 1) by omega]; exact hp)
    refine ⟨bI B + N, S1, v', no', mo', fun fuel x hf => ?_, ?_, fun S' h h2 h19 h20 h10 => ?_⟩
    · obtain ⟨F, rfl⟩ : ∃ F', fuel = F' + 1 := ⟨fuel - 1, by omega⟩
      rw [rjC_step (ad 0) F x S (by rw [hD, nI_leI (by omega) (by omega)]; omega) (B := B) (S1 := Sa) (by rw [h7, c.r]; exact hx), nI_1, g1 F _ (by omega), Int32.add_assoc]
    · have m1 := MK_cj (p := j) (i := 8) (w := nI (e + (m + 1))) mk t6 (fun q hq z => by unfold BR at hq; unfold JB at hj; omega)
      rw [uI_uI] at m1
      rw [show e + 1 + m = e + (m + 1) by omega] at g2
      exact m1.trans g2
    · obtain ⟨S3, hz, rk⟩ := hy S' h h20 (fun q _ => h10 _)
      have h3 := RK_mv mk h rk
      have e20 : gI S3 (ad 1) 20 = nI e := (rk.1.2.2 20 (by simp [MF])).trans h20
      have hS : uI S3 (ad 1) 20 (gI S3 (ad 1) 20 + 1) = uI S3 (ad 1) 20 (nI (e + 1)) := by rw [e20, nI_1]
      obtain ⟨S4, q1, q2⟩ := g3 (uI S3 (ad 1) 20 (nI (e + 1))) (Mv_t h3 (ad 1) 20 (nI (e + 1))) (by rw [gI_uI, if_neg (fun z => absurd z.2 (by decide))]; exact rk.2.1) (by rw [gI_uI, if_neg (fun z => absurd z.2 (by decide)), rk.1.2.2 19 (by simp [MF])]; exact h19) (by rw [gI_uI, if_pos ⟨rfl, rfl⟩]) (fun l => by
        rw [gI_uI, if_neg (fun z => absurd ((h.1.1 _ _).mp z.1) (by decide)), (rk.1.2.1 10 (by decide) (by unfold MPr; omega) l).1]; exact h10 l)
      refine ⟨S4, fun fuel x hf => ?_, ?_⟩
      · obtain ⟨F, rfl⟩ : ∃ F', fuel = F' + 1 := ⟨fuel - 1, by omega⟩
        have hlt : ¬ p1 ≤ nI i := by
          rcases hp with hp | ⟨-, hp⟩
          · rw [hp, nI_leI (by omega) (by omega)]; omega
          · intro z
            rw [Int32.le_iff_toInt_le, nI_toInt (by omega)] at z
            rw [Int32.lt_iff_toInt_lt, nI_toInt (by omega)] at hp
            omega
        rw [rjM_step (ad 1) F x S' hlt (by rw [h19, h20, nI_leI (by omega) (by omega)]; omega) hz, hS, nI_1, q1 F _ (by omega), Int32.add_assoc]
      · rw [uI_uI, show e + 1 + m = e + (m + 1) by omega] at q2
        exact ⟨(Ch_cr rk.1 h.1).tr q2.1, q2.2.1, q2.2.2⟩
