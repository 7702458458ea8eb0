theorem fin4 {k : Nat} (h : k < 4) : ((Fin.ofNat 4 k : Fin 4) : Nat) = k := by simp [Fin.ofNat, Nat.mod_eq_of_lt h]
theorem oi_toInt (v : Int32) : Int32.ofInt v.toInt = v := Int32.ofInt_toInt v
section
variable {α : Type} {C : CT} {cc : ByteArray} {nL : Nat} {own : String} {fr lo : Nat} {Q : α → State → Prop} {S : St} {vs : List (Option Value)} {st : List Value} {u : List (Option Value) × List Value} {F : Option α} {pc k : Nat} {v : Int32}
/-- a row that leaves heap and locals as they are -/
theorem stp_w (st' : List Value) (pc' : Nat) (hw : ∀ (p : Program) (l : Launch) (e : Env) (R : Room) (s : State) (m : MethodId) (args : Array Value) (below : List Frame) (meth : Method) (c : Code) (H : Heap) (locs : List Loc) (ce sl : Nat) (Q : State → Prop) (ls : Array Slot), p.tables.exec = Jvm.exec → c.code = cc → lvh ls nL vs → W p l e R s m args below meth c H locs ce sl Q (F0 m pc' ls st') → W p l e R s m args below meth c H locs ce sl Q (F0 m pc ls st)) (X : Cx C cc nL own fr lo) (kk : Jd C nL Q S pc' vs st' F) : Jd C nL Q S pc vs st F := by
  obtain ⟨p, l, e, R, s, m, args, below, meth, c, A, G, cy, L, K, ce, sl⟩ := C
  intro out hF hw2 H locs ls hP hD hS hl
  exact hw p l e R s m args below meth c H locs ce sl _ ls X.1 X.2.1 hl (kk out hF hw2 H locs ls hP hD hS hl)
/-- a row that stores into the locals -/
theorem stp_s (st' : List Value) (pc' : Nat) (vs' : List (Option Value)) (hw : ∀ (p : Program) (l : Launch) (e : Env) (R : Room) (s : State) (m : MethodId) (args : Array Value) (below : List Frame) (meth : Method) (c : Code) (H : Heap) (locs : List Loc) (ce sl : Nat) (Q : State → Prop) (ls : Array Slot), p.tables.exec = Jvm.exec → c.code = cc → lvh ls nL vs → (∀ ls' : Array Slot, lvh ls' nL vs' → W p l e R s m args below meth c H locs ce sl Q (F0 m pc' ls' st')) → W p l e R s m args below meth c H locs ce sl Q (F0 m pc ls st)) (X : Cx C cc nL own fr lo) (kk : Jd C nL Q S pc' vs' st' F) : Jd C nL Q S pc vs st F := by
  obtain ⟨p, l, e, R, s, m, args, below, meth, c, A, G, cy, L, K, ce, sl⟩ := C
  intro out hF hw2 H locs ls hP hD hS hl
  exact hw p l e R s m args below meth c H locs ce sl _ ls X.1 X.2.1 hl (fun ls' hl' => kk out hF hw2 H locs ls' hP hD hS hl')
theorem stp_0 (X : Cx C cc nL own fr lo) (hq : okE cc (pc, 0, k, v) = true) (h : stp nL (pc, 0, k, v) vs st = some u) (kk : Jd C nL Q S (nxt (pc, 0, k, v)) u.1 u.2 F) : Jd C nL Q S pc vs st F := by
  have hq2 := Bool.and_eq_true_iff.mp hq
  have hd : decode cc pc = .ok (rl (pc, 0, k, v)) := of_decide_eq_true hq2.1
  have hc : rlc (pc, 0, k, v) = true := hq2.2
  cases h
  exact stp_w _ _ (fun p l e R s m args below meth c H locs ce sl Q ls hx hb hl w => lv_iconst hx hb hd (oi_toInt v) w) X kk
theorem stp_1 (X : Cx C cc nL own fr lo) (hq : okE cc (pc, 1, k, v) = true) (h : stp nL (pc, 1, k, v) vs st = some u) (kk : Jd C nL Q S (nxt (pc, 1, k, v)) u.1 u.2 F) : Jd C nL Q S pc vs st F := by
  have hq2 := Bool.and_eq_true_iff.mp hq
  have hd : decode cc pc = .ok (rl (pc, 1, k, v)) := of_decide_eq_true hq2.1
  have hc : rlc (pc, 1, k, v) = true := hq2.2
  cases h
  exact stp_w _ _ (fun p l e R s m args below meth c H locs ce sl Q ls hx hb hl w => lv_bipush hx hb hd (eq_of_beq hc) w) X kk
theorem stp_2 (X : Cx C cc nL own fr lo) (hq : okE cc (pc, 2, k, v) = true) (h : stp nL (pc, 2, k, v) vs st = some u) (kk : Jd C nL Q S (nxt (pc, 2, k, v)) u.1 u.2 F) : Jd C nL Q S pc vs st F := by
  have hq2 := Bool.and_eq_true_iff.mp hq
  have hd : decode cc pc = .ok (rl (pc, 2, k, v)) := of_decide_eq_true hq2.1
  have hc : rlc (pc, 2, k, v) = true := hq2.2
  cases h
  exact stp_w _ _ (fun p l e R s m args below meth c H locs ce sl Q ls hx hb hl w => lv_sipush hx hb hd (eq_of_beq hc) w) X kk
theorem stp_3 (X : Cx C cc nL own fr lo) (hq : okE cc (pc, 3, k, v) = true) (h : stp nL (pc, 3, k, v) vs st = some u) (kk : Jd C nL Q S (nxt (pc, 3, k, v)) u.1 u.2 F) : Jd C nL Q S pc vs st F := by
  have hq2 := Bool.and_eq_true_iff.mp hq
  have hd : decode cc pc = .ok (rl (pc, 3, k, v)) := of_decide_eq_true hq2.1
  have hc : rlc (pc, 3, k, v) = true := hq2.2
  cases h
  have hk : k < 2 := of_decide_eq_true hc
  exact stp_w _ _ (fun p l e R s m args below meth c H locs ce sl Q ls hx hb hl w => lv_lconst hx hb hd (by rcases (show k = 0 ∨ k = 1 by omega) with rfl | rfl <;> rfl) w) X kk
theorem stp_4 (X : Cx C cc nL own fr lo) (hq : okE cc (pc, 4, k, v) = true) (h : stp nL (pc, 4, k, v) vs st = some u) (kk : Jd C nL Q S (nxt (pc, 4, k, v)) u.1 u.2 F) : Jd C nL Q S pc vs st F := by
  have hq2 := Bool.and_eq_true_iff.mp hq
  have hd : decode cc pc = .ok (rl (pc, 4, k, v)) := of_decide_eq_true hq2.1
  have hc : rlc (pc, 4, k, v) = true := hq2.2
  simp only [stp, o_ld] at h
  have hk : k < 4 := of_decide_eq_true hc
  split at h
  · rename_i x hx1
    cases h
    exact stp_w _ _ (fun p l e R s m args below meth c H locs ce sl Q ls hx hb hl w => lv_iload_n hx hb hd (fin4 hk) (hl.2.2 k _ hx1) w) X kk
  · cases h
  · cases h
  · cases h
theorem stp_5 (X : Cx C cc nL own fr lo) (hq : okE cc (pc, 5, k, v) = true) (h : stp nL (pc, 5, k, v) vs st = some u) (kk : Jd C nL Q S (nxt (pc, 5, k, v)) u.1 u.2 F) : Jd C nL Q S pc vs st F := by
  have hq2 := Bool.and_eq_true_iff.mp hq
  have hd : decode cc pc = .ok (rl (pc, 5, k, v)) := of_decide_eq_true hq2.1
  have hc : rlc (pc, 5, k, v) = true := hq2.2
  simp only [stp, o_ld] at h
  split at h
  · rename_i x hx1
    cases h
    exact stp_w _ _ (fun p l e R s m args below meth c H locs ce sl Q ls hx hb hl w => lv_iload hx hb hd (hl.2.2 k _ hx1) w) X kk
  · cases h
  · cases h
  · cases h
theorem stp_6 (X : Cx C cc nL own fr lo) (hq : okE cc (pc, 6, k, v) = true) (h : stp nL (pc, 6, k, v) vs st = some u) (kk : Jd C nL Q S (nxt (pc, 6, k, v)) u.1 u.2 F) : Jd C nL Q S pc vs st F := by
  have hq2 := Bool.and_eq_true_iff.mp hq
  have hd : decode cc pc = .ok (rl (pc, 6, k, v)) := of_decide_eq_true hq2.1
  have hc : rlc (pc, 6, k, v) = true := hq2.2
  simp only [stp, o_ld] at h
  have hk : k < 4 := of_decide_eq_true hc
  split at h
  · cases h
  · rename_i x hx1
    cases h
    exact stp_w _ _ (fun p l e R s m args below meth c H locs ce sl Q ls hx hb hl w => lv_lload_n hx hb hd (fin4 hk) (hl.2.2 k _ hx1) w) X kk
  · cases h
  · cases h
theorem stp_7 (X : Cx C cc nL own fr lo) (hq : okE cc (pc, 7, k, v) = true) (h : stp nL (pc, 7, k, v) vs st = some u) (kk : Jd C nL Q S (nxt (pc, 7, k, v)) u.1 u.2 F) : Jd C nL Q S pc vs st F := by
  have hq2 := Bool.and_eq_true_iff.mp hq
  have hd : decode cc pc = .ok (rl (pc, 7, k, v)) := of_decide_eq_true hq2.1
  have hc : rlc (pc, 7, k, v) = true := hq2.2
  simp only [stp, o_ld] at h
  split at h
  · cases h
  · rename_i x hx1
    cases h
    exact stp_w _ _ (fun p l e R s m args below meth c H locs ce sl Q ls hx hb hl w => lv_lload hx hb hd (hl.2.2 k _ hx1) w) X kk
  · cases h
  · cases h
theorem stp_8 (X : Cx C cc nL own fr lo) (hq : okE cc (pc, 8, k, v) = true) (h : stp nL (pc, 8, k, v) vs st = some u) (kk : Jd C nL Q S (nxt (pc, 8, k, v)) u.1 u.2 F) : Jd C nL Q S pc vs st F := by
  have hq2 := Bool.and_eq_true_iff.mp hq
  have hd : decode cc pc = .ok (rl (pc, 8, k, v)) := of_decide_eq_true hq2.1
  have hc : rlc (pc, 8, k, v) = true := hq2.2
  simp only [stp, o_ld] at h
  have hk : k < 4 := of_decide_eq_true hc
  split at h
  · cases h
  · cases h
  · rename_i x hx1
    cases h
    exact stp_w _ _ (fun p l e R s m args below meth c H locs ce sl Q ls hx hb hl w => lv_aload_n hx hb hd (fin4 hk) (hl.2.2 k _ hx1) w) X kk
  · cases h
theorem stp_9 (X : Cx C cc nL own fr lo) (hq : okE cc (pc, 9, k, v) = true) (h : stp nL (pc, 9, k, v) vs st = some u) (kk : Jd C nL Q S (nxt (pc, 9, k, v)) u.1 u.2 F) : Jd C nL Q S pc vs st F := by
  have hq2 := Bool.and_eq_true_iff.mp hq
  have hd : decode cc pc = .ok (rl (pc, 9, k, v)) := of_decide_eq_true hq2.1
  have hc : rlc (pc, 9, k, v) = true := hq2.2
  simp only [stp, o_ld] at h
  split at h
  · cases h
  · cases h
  · rename_i x hx1
    cases h
    exact stp_w _ _ (fun p l e R s m args below meth c H locs ce sl Q ls hx hb hl w => lv_aload hx hb hd (hl.2.2 k _ hx1) w) X kk
  · cases h
theorem stp_10 (X : Cx C cc nL own fr lo) (hq : okE cc (pc, 10, k, v) = true) (h : stp nL (pc, 10, k, v) vs st = some u) (kk : Jd C nL Q S (nxt (pc, 10, k, v)) u.1 u.2 F) : Jd C nL Q S pc vs st F := by
  have hq2 := Bool.and_eq_true_iff.mp hq
  have hd : decode cc pc = .ok (rl (pc, 10, k, v)) := of_decide_eq_true hq2.1
  have hc : rlc (pc, 10, k, v) = true := hq2.2
  simp only [stp, o_st] at h
  have hk : k < 4 := of_decide_eq_true hc
  split at h
  · rename_i x r
    split at h
    · rename_i hn
      cases h
      exact stp_s _ _ _ (fun p l e R s m args below meth c H locs ce sl Q ls hx hb hl w => lv_istore_n hx hb hd (fin4 hk) hl.has hn.2 rfl (fun ls' hl' => w ls' (lvh_store1 (ls := ls) hl'))) X kk
    · cases h
  · split at h
    · rename_i hn; exact absurd hn.1 (by decide)
    · cases h
  · split at h
    · rename_i hn; exact absurd hn.1 (by decide)
    · cases h
  · cases h
theorem stp_11 (X : Cx C cc nL own fr lo) (hq : okE cc (pc, 11, k, v) = true) (h : stp nL (pc, 11, k, v) vs st = some u) (kk : Jd C nL Q S (nxt (pc, 11, k, v)) u.1 u.2 F) : Jd C nL Q S pc vs st F := by
  have hq2 := Bool.and_eq_true_iff.mp hq
  have hd : decode cc pc = .ok (rl (pc, 11, k, v)) := of_decide_eq_true hq2.1
  have hc : rlc (pc, 11, k, v) = true := hq2.2
  simp only [stp, o_st] at h
  split at h
  · rename_i x r
    split at h
    · rename_i hn
      cases h
      exact stp_s _ _ _ (fun p l e R s m args below meth c H locs ce sl Q ls hx hb hl w => lv_istore hx hb hd hl.has hn.2 rfl (fun ls' hl' => w ls' (lvh_store1 (ls := ls) hl'))) X kk
    · cases h
  · split at h
    · rename_i hn; exact absurd hn.1 (by decide)
    · cases h
  · split at h
    · rename_i hn; exact absurd hn.1 (by decide)
    · cases h
  · cases h
theorem stp_12 (X : Cx C cc nL own fr lo) (hq : okE cc (pc, 12, k, v) = true) (h : stp nL (pc, 12, k, v) vs st = some u) (kk : Jd C nL Q S (nxt (pc, 12, k, v)) u.1 u.2 F) : Jd C nL Q S pc vs st F := by
  have hq2 := Bool.and_eq_true_iff.mp hq
  have hd : decode cc pc = .ok (rl (pc, 12, k, v)) := of_decide_eq_true hq2.1
  have hc : rlc (pc, 12, k, v) = true := hq2.2
  simp only [stp, o_st] at h
  have hk : k < 4 := of_decide_eq_true hc
  split at h
  · split at h
    · rename_i hn; exact absurd hn.1 (by decide)
    · cases h
  · rename_i x r
    split at h
    · rename_i hn
      cases h
      exact stp_s _ _ _ (fun p l e R s m args below meth c H locs ce sl Q ls hx hb hl w => lv_lstore_n hx hb hd (fin4 hk) hl.has hn.2 rfl (fun ls' hl' => w ls' (lvh_store2 (ls := ls) hl'))) X kk
    · cases h
  · split at h
    · rename_i hn; exact absurd hn.1 (by decide)
    · cases h
  · cases h
theorem stp_13 (X : Cx C cc nL own fr lo) (hq : okE cc (pc, 13, k, v) = true) (h : stp nL (pc, 13, k, v) vs st = some u) (kk : Jd C nL Q S (nxt (pc, 13, k, v)) u.1 u.2 F) : Jd C nL Q S pc vs st F := by
  have hq2 := Bool.and_eq_true_iff.mp hq
  have hd : decode cc pc = .ok (rl (pc, 13, k, v)) := of_decide_eq_true hq2.1
  have hc : rlc (pc, 13, k, v) = true := hq2.2
  simp only [stp, o_st] at h
  split at h
  · split at h
    · rename_i hn; exact absurd hn.1 (by decide)
    · cases h
  · rename_i x r
    split at h
    · rename_i hn
      cases h
      exact stp_s _ _ _ (fun p l e R s m args below meth c H locs ce sl Q ls hx hb hl w => lv_lstore hx hb hd hl.has hn.2 rfl (fun ls' hl' => w ls' (lvh_store2 (ls := ls) hl'))) X kk
    · cases h
  · split at h
    · rename_i hn; exact absurd hn.1 (by decide)
    · cases h
  · cases h
theorem stp_14 (X : Cx C cc nL own fr lo) (hq : okE cc (pc, 14, k, v) = true) (h : stp nL (pc, 14, k, v) vs st = some u) (kk : Jd C nL Q S (nxt (pc, 14, k, v)) u.1 u.2 F) : Jd C nL Q S pc vs st F := by
  have hq2 := Bool.and_eq_true_iff.mp hq
  have hd : decode cc pc = .ok (rl (pc, 14, k, v)) := of_decide_eq_true hq2.1
  have hc : rlc (pc, 14, k, v) = true := hq2.2
  simp only [stp, o_st] at h
  have hk : k < 4 := of_decide_eq_true hc
  split at h
  · split at h
    · rename_i hn; exact absurd hn.1 (by decide)
    · cases h
  · split at h
    · rename_i hn; exact absurd hn.1 (by decide)
    · cases h
  · rename_i x r
    split at h
    · rename_i hn
      cases h
      exact stp_s _ _ _ (fun p l e R s m args below meth c H locs ce sl Q ls hx hb hl w => lv_astore_n hx hb hd (fin4 hk) hl.has hn.2 rfl (fun ls' hl' => w ls' (lvh_store1 (ls := ls) hl'))) X kk
    · cases h
  · cases h
theorem stp_15 (X : Cx C cc nL own fr lo) (hq : okE cc (pc, 15, k, v) = true) (h : stp nL (pc, 15, k, v) vs st = some u) (kk : Jd C nL Q S (nxt (pc, 15, k, v)) u.1 u.2 F) : Jd C nL Q S pc vs st F := by
  have hq2 := Bool.and_eq_true_iff.mp hq
  have hd : decode cc pc = .ok (rl (pc, 15, k, v)) := of_decide_eq_true hq2.1
  have hc : rlc (pc, 15, k, v) = true := hq2.2
  simp only [stp, o_st] at h
  split at h
  · split at h
    · rename_i hn; exact absurd hn.1 (by decide)
    · cases h
  · split at h
    · rename_i hn; exact absurd hn.1 (by decide)
    · cases h
  · rename_i x r
    split at h
    · rename_i hn
      cases h
      exact stp_s _ _ _ (fun p l e R s m args below meth c H locs ce sl Q ls hx hb hl w => lv_astore hx hb hd hl.has hn.2 rfl (fun ls' hl' => w ls' (lvh_store1 (ls := ls) hl'))) X kk
    · cases h
  · cases h
theorem prs_get : ∀ (vs : List (Option Value)) (i : Nat) (x : Value), vs[i]? = some (some x) → ∃ j : Nat, (prs 0 vs)[j]? = some (i, x) := by
  intro vs i x h
  have := prs_mem vs 0 i x h
  rw [Nat.zero_add] at this
  exact List.getElem?_of_mem this
theorem stp_16 (X : Cx C cc nL own fr lo) (hq : okE cc (pc, 16, k, v) = true) (h : stp nL (pc, 16, k, v) vs st = some u) (kk : Jd C nL Q S (nxt (pc, 16, k, v)) u.1 u.2 F) : Jd C nL Q S pc vs st F := by
  have hq2 := Bool.and_eq_true_iff.mp hq
  have hd : decode cc pc = .ok (rl (pc, 16, k, v)) := of_decide_eq_true hq2.1
  have hc : rlc (pc, 16, k, v) = true := hq2.2
  simp only [stp, o_inc] at h
  split at h
  · rename_i x hx1
    split at h
    · rename_i hn
      cases h
      obtain ⟨j, hj⟩ := prs_get vs k _ hx1
      exact stp_s _ _ _ (fun p l e R s m args below meth c H locs ce sl Q ls hx hb hl w => lv_iinc hx hb hd hl.has hj (by rw [oi_toInt]) hn rfl (fun ls' hl' => w ls' (lvh_store1 (ls := ls) hl'))) X kk
    · cases h
  · cases h
theorem stp_17 (X : Cx C cc nL own fr lo) (hq : okE cc (pc, 17, k, v) = true) (h : stp nL (pc, 17, k, v) vs st = some u) (kk : Jd C nL Q S (nxt (pc, 17, k, v)) u.1 u.2 F) : Jd C nL Q S pc vs st F := by
  have hq2 := Bool.and_eq_true_iff.mp hq
  have hd : decode cc pc = .ok (rl (pc, 17, k, v)) := of_decide_eq_true hq2.1
  have hc : rlc (pc, 17, k, v) = true := hq2.2
  simp only [stp, o_ii] at h
  split at h
  · cases h; exact stp_w _ _ (fun p l e R s m args below meth c H locs ce sl Q ls hx hb hl w => lv_iadd hx hb hd  w) X kk
  · cases h
theorem stp_18 (X : Cx C cc nL own fr lo) (hq : okE cc (pc, 18, k, v) = true) (h : stp nL (pc, 18, k, v) vs st = some u) (kk : Jd C nL Q S (nxt (pc, 18, k, v)) u.1 u.2 F) : Jd C nL Q S pc vs st F := by
  have hq2 := Bool.and_eq_true_iff.mp hq
  have hd : decode cc pc = .ok (rl (pc, 18, k, v)) := of_decide_eq_true hq2.1
  have hc : rlc (pc, 18, k, v) = true := hq2.2
  simp only [stp, o_ii] at h
  split at h
  · cases h; exact stp_w _ _ (fun p l e R s m args below meth c H locs ce sl Q ls hx hb hl w => lv_isub hx hb hd  w) X kk
  · cases h
theorem stp_19 (X : Cx C cc nL own fr lo) (hq : okE cc (pc, 19, k, v) = true) (h : stp nL (pc, 19, k, v) vs st = some u) (kk : Jd C nL Q S (nxt (pc, 19, k, v)) u.1 u.2 F) : Jd C nL Q S pc vs st F := by
  have hq2 := Bool.and_eq_true_iff.mp hq
  have hd : decode cc pc = .ok (rl (pc, 19, k, v)) := of_decide_eq_true hq2.1
  have hc : rlc (pc, 19, k, v) = true := hq2.2
  simp only [stp, o_ii] at h
  split at h
  · cases h; exact stp_w _ _ (fun p l e R s m args below meth c H locs ce sl Q ls hx hb hl w => lv_imul hx hb hd  w) X kk
  · cases h
theorem stp_20 (X : Cx C cc nL own fr lo) (hq : okE cc (pc, 20, k, v) = true) (h : stp nL (pc, 20, k, v) vs st = some u) (kk : Jd C nL Q S (nxt (pc, 20, k, v)) u.1 u.2 F) : Jd C nL Q S pc vs st F := by
  have hq2 := Bool.and_eq_true_iff.mp hq
  have hd : decode cc pc = .ok (rl (pc, 20, k, v)) := of_decide_eq_true hq2.1
  have hc : rlc (pc, 20, k, v) = true := hq2.2
  simp only [stp, o_ii] at h
  split at h
  · cases h; exact stp_w _ _ (fun p l e R s m args below meth c H locs ce sl Q ls hx hb hl w => lv_iand hx hb hd  w) X kk
  · cases h
theorem stp_21 (X : Cx C cc nL own fr lo) (hq : okE cc (pc, 21, k, v) = true) (h : stp nL (pc, 21, k, v) vs st = some u) (kk : Jd C nL Q S (nxt (pc, 21, k, v)) u.1 u.2 F) : Jd C nL Q S pc vs st F := by
  have hq2 := Bool.and_eq_true_iff.mp hq
  have hd : decode cc pc = .ok (rl (pc, 21, k, v)) := of_decide_eq_true hq2.1
  have hc : rlc (pc, 21, k, v) = true := hq2.2
  simp only [stp, o_ii] at h
  split at h
  · cases h; exact stp_w _ _ (fun p l e R s m args below meth c H locs ce sl Q ls hx hb hl w => lv_ior hx hb hd  w) X kk
  · cases h
theorem stp_22 (X : Cx C cc nL own fr lo) (hq : okE cc (pc, 22, k, v) = true) (h : stp nL (pc, 22, k, v) vs st = some u) (kk : Jd C nL Q S (nxt (pc, 22, k, v)) u.1 u.2 F) : Jd C nL Q S pc vs st F := by
  have hq2 := Bool.and_eq_true_iff.mp hq
  have hd : decode cc pc = .ok (rl (pc, 22, k, v)) := of_decide_eq_true hq2.1
  have hc : rlc (pc, 22, k, v) = true := hq2.2
  simp only [stp, o_i] at h
  split at h
  · cases h; exact stp_w _ _ (fun p l e R s m args below meth c H locs ce sl Q ls hx hb hl w => lv_ineg hx hb hd  w) X kk
  · cases h
theorem stp_23 (X : Cx C cc nL own fr lo) (hq : okE cc (pc, 23, k, v) = true) (h : stp nL (pc, 23, k, v) vs st = some u) (kk : Jd C nL Q S (nxt (pc, 23, k, v)) u.1 u.2 F) : Jd C nL Q S pc vs st F := by
  have hq2 := Bool.and_eq_true_iff.mp hq
  have hd : decode cc pc = .ok (rl (pc, 23, k, v)) := of_decide_eq_true hq2.1
  have hc : rlc (pc, 23, k, v) = true := hq2.2
  simp only [stp, o_ll] at h
  split at h
  · cases h; exact stp_w _ _ (fun p l e R s m args below meth c H locs ce sl Q ls hx hb hl w => lv_ladd hx hb hd  w) X kk
  · cases h
theorem stp_24 (X : Cx C cc nL own fr lo) (hq : okE cc (pc, 24, k, v) = true) (h : stp nL (pc, 24, k, v) vs st = some u) (kk : Jd C nL Q S (nxt (pc, 24, k, v)) u.1 u.2 F) : Jd C nL Q S pc vs st F := by
  have hq2 := Bool.and_eq_true_iff.mp hq
  have hd : decode cc pc = .ok (rl (pc, 24, k, v)) := of_decide_eq_true hq2.1
  have hc : rlc (pc, 24, k, v) = true := hq2.2
  simp only [stp, o_ll] at h
  split at h
  · cases h; exact stp_w _ _ (fun p l e R s m args below meth c H locs ce sl Q ls hx hb hl w => lv_lsub hx hb hd  w) X kk
  · cases h
theorem stp_25 (X : Cx C cc nL own fr lo) (hq : okE cc (pc, 25, k, v) = true) (h : stp nL (pc, 25, k, v) vs st = some u) (kk : Jd C nL Q S (nxt (pc, 25, k, v)) u.1 u.2 F) : Jd C nL Q S pc vs st F := by
  have hq2 := Bool.and_eq_true_iff.mp hq
  have hd : decode cc pc = .ok (rl (pc, 25, k, v)) := of_decide_eq_true hq2.1
  have hc : rlc (pc, 25, k, v) = true := hq2.2
  simp only [stp, o_ll] at h
  split at h
  · cases h; exact stp_w _ _ (fun p l e R s m args below meth c H locs ce sl Q ls hx hb hl w => lv_lmul hx hb hd  w) X kk
  · cases h
theorem stp_26 (X : Cx C cc nL own fr lo) (hq : okE cc (pc, 26, k, v) = true) (h : stp nL (pc, 26, k, v) vs st = some u) (kk : Jd C nL Q S (nxt (pc, 26, k, v)) u.1 u.2 F) : Jd C nL Q S pc vs st F := by
  have hq2 := Bool.and_eq_true_iff.mp hq
  have hd : decode cc pc = .ok (rl (pc, 26, k, v)) := of_decide_eq_true hq2.1
  have hc : rlc (pc, 26, k, v) = true := hq2.2
  simp only [stp, o_ll] at h
  split at h
  · cases h; exact stp_w _ _ (fun p l e R s m args below meth c H locs ce sl Q ls hx hb hl w => lv_land hx hb hd  w) X kk
  · cases h
theorem stp_27 (X : Cx C cc nL own fr lo) (hq : okE cc (pc, 27, k, v) = true) (h : stp nL (pc, 27, k, v) vs st = some u) (kk : Jd C nL Q S (nxt (pc, 27, k, v)) u.1 u.2 F) : Jd C nL Q S pc vs st F := by
  have hq2 := Bool.and_eq_true_iff.mp hq
  have hd : decode cc pc = .ok (rl (pc, 27, k, v)) := of_decide_eq_true hq2.1
  have hc : rlc (pc, 27, k, v) = true := hq2.2
  simp only [stp, o_ll] at h
  split at h
  · cases h; exact stp_w _ _ (fun p l e R s m args below meth c H locs ce sl Q ls hx hb hl w => lv_lor hx hb hd  w) X kk
  · cases h
theorem stp_28 (X : Cx C cc nL own fr lo) (hq : okE cc (pc, 28, k, v) = true) (h : stp nL (pc, 28, k, v) vs st = some u) (kk : Jd C nL Q S (nxt (pc, 28, k, v)) u.1 u.2 F) : Jd C nL Q S pc vs st F := by
  have hq2 := Bool.and_eq_true_iff.mp hq
  have hd : decode cc pc = .ok (rl (pc, 28, k, v)) := of_decide_eq_true hq2.1
  have hc : rlc (pc, 28, k, v) = true := hq2.2
  simp only [stp, o_l] at h
  split at h
  · cases h; exact stp_w _ _ (fun p l e R s m args below meth c H locs ce sl Q ls hx hb hl w => lv_lneg hx hb hd  w) X kk
  · cases h
theorem stp_29 (X : Cx C cc nL own fr lo) (hq : okE cc (pc, 29, k, v) = true) (h : stp nL (pc, 29, k, v) vs st = some u) (kk : Jd C nL Q S (nxt (pc, 29, k, v)) u.1 u.2 F) : Jd C nL Q S pc vs st F := by
  have hq2 := Bool.and_eq_true_iff.mp hq
  have hd : decode cc pc = .ok (rl (pc, 29, k, v)) := of_decide_eq_true hq2.1
  have hc : rlc (pc, 29, k, v) = true := hq2.2
  simp only [stp, o_ii] at h
  split at h
  · cases h; exact stp_w _ _ (fun p l e R s m args below meth c H locs ce sl Q ls hx hb hl w => lv_ishl hx hb hd  w) X kk
  · cases h
theorem stp_30 (X : Cx C cc nL own fr lo) (hq : okE cc (pc, 30, k, v) = true) (h : stp nL (pc, 30, k, v) vs st = some u) (kk : Jd C nL Q S (nxt (pc, 30, k, v)) u.1 u.2 F) : Jd C nL Q S pc vs st F := by
  have hq2 := Bool.and_eq_true_iff.mp hq
  have hd : decode cc pc = .ok (rl (pc, 30, k, v)) := of_decide_eq_true hq2.1
  have hc : rlc (pc, 30, k, v) = true := hq2.2
  simp only [stp, o_ii] at h
  split at h
  · cases h; exact stp_w _ _ (fun p l e R s m args below meth c H locs ce sl Q ls hx hb hl w => lv_ishr hx hb hd  w) X kk
  · cases h
theorem stp_31 (X : Cx C cc nL own fr lo) (hq : okE cc (pc, 31, k, v) = true) (h : stp nL (pc, 31, k, v) vs st = some u) (kk : Jd C nL Q S (nxt (pc, 31, k, v)) u.1 u.2 F) : Jd C nL Q S pc vs st F := by
  have hq2 := Bool.and_eq_true_iff.mp hq
  have hd : decode cc pc = .ok (rl (pc, 31, k, v)) := of_decide_eq_true hq2.1
  have hc : rlc (pc, 31, k, v) = true := hq2.2
  simp only [stp, o_i] at h
  split at h
  · cases h; exact stp_w _ _ (fun p l e R s m args below meth c H locs ce sl Q ls hx hb hl w => lv_i2l hx hb hd rfl w) X kk
  · cases h
theorem stp_32 (X : Cx C cc nL own fr lo) (hq : okE cc (pc, 32, k, v) = true) (h : stp nL (pc, 32, k, v) vs st = some u) (kk : Jd C nL Q S (nxt (pc, 32, k, v)) u.1 u.2 F) : Jd C nL Q S pc vs st F := by
  have hq2 := Bool.and_eq_true_iff.mp hq
  have hd : decode cc pc = .ok (rl (pc, 32, k, v)) := of_decide_eq_true hq2.1
  have hc : rlc (pc, 32, k, v) = true := hq2.2
  simp only [stp, o_l] at h
  split at h
  · cases h; exact stp_w _ _ (fun p l e R s m args below meth c H locs ce sl Q ls hx hb hl w => lv_l2i hx hb hd rfl w) X kk
  · cases h
theorem stp_33 (X : Cx C cc nL own fr lo) (hq : okE cc (pc, 33, k, v) = true) (h : stp nL (pc, 33, k, v) vs st = some u) (kk : Jd C nL Q S (nxt (pc, 33, k, v)) u.1 u.2 F) : Jd C nL Q S pc vs st F := by
  have hq2 := Bool.and_eq_true_iff.mp hq
  have hd : decode cc pc = .ok (rl (pc, 33, k, v)) := of_decide_eq_true hq2.1
  have hc : rlc (pc, 33, k, v) = true := hq2.2
  simp only [stp, o_i] at h
  split at h
  · cases h; exact stp_w _ _ (fun p l e R s m args below meth c H locs ce sl Q ls hx hb hl w => lv_i2b hx hb hd rfl w) X kk
  · cases h
theorem stp_34 (X : Cx C cc nL own fr lo) (hq : okE cc (pc, 34, k, v) = true) (h : stp nL (pc, 34, k, v) vs st = some u) (kk : Jd C nL Q S (nxt (pc, 34, k, v)) u.1 u.2 F) : Jd C nL Q S pc vs st F := by
  have hq2 := Bool.and_eq_true_iff.mp hq
  have hd : decode cc pc = .ok (rl (pc, 34, k, v)) := of_decide_eq_true hq2.1
  have hc : rlc (pc, 34, k, v) = true := hq2.2
  simp only [stp, o_li] at h
  split at h
  · cases h; exact stp_w _ _ (fun p l e R s m args below meth c H locs ce sl Q ls hx hb hl w => lv_lshl hx hb hd rfl w) X kk
  · cases h
theorem stp_35 (X : Cx C cc nL own fr lo) (hq : okE cc (pc, 35, k, v) = true) (h : stp nL (pc, 35, k, v) vs st = some u) (kk : Jd C nL Q S (nxt (pc, 35, k, v)) u.1 u.2 F) : Jd C nL Q S pc vs st F := by
  have hq2 := Bool.and_eq_true_iff.mp hq
  have hd : decode cc pc = .ok (rl (pc, 35, k, v)) := of_decide_eq_true hq2.1
  have hc : rlc (pc, 35, k, v) = true := hq2.2
  simp only [stp, o_li] at h
  split at h
  · cases h; exact stp_w _ _ (fun p l e R s m args below meth c H locs ce sl Q ls hx hb hl w => lv_lshr hx hb hd rfl w) X kk
  · cases h
theorem stp_36 (X : Cx C cc nL own fr lo) (hq : okE cc (pc, 36, k, v) = true) (h : stp nL (pc, 36, k, v) vs st = some u) (kk : Jd C nL Q S (nxt (pc, 36, k, v)) u.1 u.2 F) : Jd C nL Q S pc vs st F := by
  have hq2 := Bool.and_eq_true_iff.mp hq
  have hd : decode cc pc = .ok (rl (pc, 36, k, v)) := of_decide_eq_true hq2.1
  have hc : rlc (pc, 36, k, v) = true := hq2.2
  simp only [stp, o_dup] at h
  split at h
  · cases h; exact stp_w _ _ (fun p l e R s m args below meth c H locs ce sl Q ls hx hb hl w => lv_dup hx hb hd rfl w) X kk
  · cases h; exact stp_w _ _ (fun p l e R s m args below meth c H locs ce sl Q ls hx hb hl w => lv_dup hx hb hd rfl w) X kk
  · cases h
theorem stp_37 (X : Cx C cc nL own fr lo) (hq : okE cc (pc, 37, k, v) = true) (h : stp nL (pc, 37, k, v) vs st = some u) (kk : Jd C nL Q S (nxt (pc, 37, k, v)) u.1 u.2 F) : Jd C nL Q S pc vs st F := by
  have hq2 := Bool.and_eq_true_iff.mp hq
  have hd : decode cc pc = .ok (rl (pc, 37, k, v)) := of_decide_eq_true hq2.1
  have hc : rlc (pc, 37, k, v) = true := hq2.2
  simp only [stp, o_dup2] at h
  split at h
  · cases h; exact stp_w _ _ (fun p l e R s m args below meth c H locs ce sl Q ls hx hb hl w => lv_dup2_2 hx hb hd rfl w) X kk
  · cases h; exact stp_w _ _ (fun p l e R s m args below meth c H locs ce sl Q ls hx hb hl w => lv_dup2_11 hx hb hd rfl rfl w) X kk
  · cases h; exact stp_w _ _ (fun p l e R s m args below meth c H locs ce sl Q ls hx hb hl w => lv_dup2_11 hx hb hd rfl rfl w) X kk
  · cases h
theorem stp_38 (X : Cx C cc nL own fr lo) (hq : okE cc (pc, 38, k, v) = true) (h : stp nL (pc, 38, k, v) vs st = some u) (kk : Jd C nL Q S (nxt (pc, 38, k, v)) u.1 u.2 F) : Jd C nL Q S pc vs st F := by
  have hq2 := Bool.and_eq_true_iff.mp hq
  have hd : decode cc pc = .ok (rl (pc, 38, k, v)) := of_decide_eq_true hq2.1
  have hc : rlc (pc, 38, k, v) = true := hq2.2
  simp only [stp, o_pop] at h
  split at h
  · cases h; exact stp_w _ _ (fun p l e R s m args below meth c H locs ce sl Q ls hx hb hl w => lv_pop hx hb hd rfl w) X kk
  · cases h; exact stp_w _ _ (fun p l e R s m args below meth c H locs ce sl Q ls hx hb hl w => lv_pop hx hb hd rfl w) X kk
  · cases h
theorem stp_39 (X : Cx C cc nL own fr lo) (hq : okE cc (pc, 39, k, v) = true) (h : stp nL (pc, 39, k, v) vs st = some u) (kk : Jd C nL Q S (nxt (pc, 39, k, v)) u.1 u.2 F) : Jd C nL Q S pc vs st F := by
  have hq2 := Bool.and_eq_true_iff.mp hq
  have hd : decode cc pc = .ok (rl (pc, 39, k, v)) := of_decide_eq_true hq2.1
  have hc : rlc (pc, 39, k, v) = true := hq2.2
  simp only [stp, o_pop2] at h
  split at h
  · cases h; exact stp_w _ _ (fun p l e R s m args below meth c H locs ce sl Q ls hx hb hl w => lv_pop2_2 hx hb hd rfl w) X kk
  · cases h
theorem stp_40 (X : Cx C cc nL own fr lo) (hq : okE cc (pc, 40, k, v) = true) (h : stp nL (pc, 40, k, v) vs st = some u) (kk : Jd C nL Q S (nxt (pc, 40, k, v)) u.1 u.2 F) : Jd C nL Q S pc vs st F := by
  have hq2 := Bool.and_eq_true_iff.mp hq
  have hd : decode cc pc = .ok (rl (pc, 40, k, v)) := of_decide_eq_true hq2.1
  have hc : rlc (pc, 40, k, v) = true := hq2.2
  simp only [stp, o_cmp] at h
  split at h
  · cases h; exact stp_w _ _ (fun p l e R s m args below meth c H locs ce sl Q ls hx hb hl w => W.lcmp hx hb hd  w) X kk
  · cases h
theorem stp_g (X : Cx C cc nL own fr lo) {n : Nat} (hq : okE cc (pc, n + 41, k, v) = true) (h : stp nL (pc, n + 41, k, v) vs st = some u) (kk : Jd C nL Q S (nxt (pc, n + 41, k, v)) u.1 u.2 F) : Jd C nL Q S pc vs st F := by
  have hq2 := Bool.and_eq_true_iff.mp hq
  have hd : decode cc pc = .ok (rl (pc, n + 41, k, v)) := of_decide_eq_true hq2.1
  have e1 : rl (pc, n + 41, k, v) = (.goto ((k : Int) - (pc : Int)), 3) := by simp [rl]
  have e2 : stp nL (pc, n + 41, k, v) vs st = some (vs, st) := by simp [stp]
  have e3 : nxt (pc, n + 41, k, v) = k := by simp [nxt]
  rw [e1] at hd
  rw [e2] at h
  rw [e3] at kk
  cases h
  exact stp_w _ _ (fun p l e R s m args below meth c H locs ce sl Q ls hx hb hl w => lv_goto hx hb hd (by omega) w) X kk
theorem stp_ok (X : Cx C cc nL own fr lo) (q : En) (hq : okE cc q = true) (h : stp nL q vs st = some u) (kk : Jd C nL Q S (nxt q) u.1 u.2 F) : Jd C nL Q S q.1 vs st F := by
  obtain ⟨pc, op, k, v⟩ := q
  match op, hq, h, kk with
  | 0, hq, h, kk => exact stp_0 X hq h kk
  | 1, hq, h, kk => exact stp_1 X hq h kk
  | 2, hq, h, kk => exact stp_2 X hq h kk
  | 3, hq, h, kk => exact stp_3 X hq h kk
  | 4, hq, h, kk => exact stp_4 X hq h kk
  | 5, hq, h, kk => exact stp_5 X hq h kk
  | 6, hq, h, kk => exact stp_6 X hq h kk
  | 7, hq, h, kk => exact stp_7 X hq h kk
  | 8, hq, h, kk => exact stp_8 X hq h kk
  | 9, hq, h, kk => exact stp_9 X hq h kk
  | 10, hq, h, kk => exact stp_10 X hq h kk
  | 11, hq, h, kk => exact stp_11 X hq h kk
  | 12, hq, h, kk => exact stp_12 X hq h kk
  | 13, hq, h, kk => exact stp_13 X hq h kk
  | 14, hq, h, kk => exact stp_14 X hq h kk
  | 15, hq, h, kk => exact stp_15 X hq h kk
  | 16, hq, h, kk => exact stp_16 X hq h kk
  | 17, hq, h, kk => exact stp_17 X hq h kk
  | 18, hq, h, kk => exact stp_18 X hq h kk
  | 19, hq, h, kk => exact stp_19 X hq h kk
  | 20, hq, h, kk => exact stp_20 X hq h kk
  | 21, hq, h, kk => exact stp_21 X hq h kk
  | 22, hq, h, kk => exact stp_22 X hq h kk
  | 23, hq, h, kk => exact stp_23 X hq h kk
  | 24, hq, h, kk => exact stp_24 X hq h kk
  | 25, hq, h, kk => exact stp_25 X hq h kk
  | 26, hq, h, kk => exact stp_26 X hq h kk
  | 27, hq, h, kk => exact stp_27 X hq h kk
  | 28, hq, h, kk => exact stp_28 X hq h kk
  | 29, hq, h, kk => exact stp_29 X hq h kk
  | 30, hq, h, kk => exact stp_30 X hq h kk
  | 31, hq, h, kk => exact stp_31 X hq h kk
  | 32, hq, h, kk => exact stp_32 X hq h kk
  | 33, hq, h, kk => exact stp_33 X hq h kk
  | 34, hq, h, kk => exact stp_34 X hq h kk
  | 35, hq, h, kk => exact stp_35 X hq h kk
  | 36, hq, h, kk => exact stp_36 X hq h kk
  | 37, hq, h, kk => exact stp_37 X hq h kk
  | 38, hq, h, kk => exact stp_38 X hq h kk
  | 39, hq, h, kk => exact stp_39 X hq h kk
  | 40, hq, h, kk => exact stp_40 X hq h kk
  | n + 41, hq, h, kk => exact stp_g X hq h kk
theorem run_ok (X : Cx C cc nL own fr lo) : ∀ (tb : List En), (∀ q ∈ tb, okE cc q = true) → ∀ (pc : Nat) (vs : List (Option Value)) (st : List Value) (pc' : Nat) (vs' : List (Option Value)) (st' : List Value), runp nL tb pc vs st = some (pc', vs', st') → Jd C nL Q S pc' vs' st' F → Jd C nL Q S pc vs st F := by
  intro tb
  induction tb with
  | nil => intro _ pc vs st pc' vs' st' h kk; cases h; exact kk
  | cons q r ih =>
    intro hq pc vs st pc' vs' st' h kk
    simp only [runp] at h
    split at h
    · rename_i e
      subst e
      split at h
      · rename_i u hu
        exact stp_ok X q (hq q List.mem_cons_self) hu (ih (fun q h => hq q (List.mem_cons_of_mem _ h)) _ _ _ _ _ _ h kk)
      · cases h
    · cases h
/-- the rows i .. i + n - 1 of a method's table -/
theorem s_run (X : Cx C cc nL own fr lo) {tb : List En} (ok : tb.all (okE cc) = true) (i n : Nat) {pc' : Nat} {vs' : List (Option Value)} {st' : List Value} (h : runp nL ((tb.drop i).take n) pc vs st = some (pc', vs', st')) (kk : Jd C nL Q S pc' vs' st' F) : Jd C nL Q S pc vs st F :=
  run_ok X _ (fun q hq => List.all_eq_true.mp ok q (List.mem_of_mem_drop (List.mem_of_mem_take hq))) _ _ _ _ _ _ h kk
end
