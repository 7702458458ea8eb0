abbrev sV : St → St := fun s => s
theorem ta0 {C : CT} : ∀ q ∈ ([] : List (Nat × Nat)), tT C q.1 q.2 := fun _ h => absurd h List.not_mem_nil
theorem ta1 {C : CT} {a k : Nat} (h : tT C a k) : ∀ q ∈ [(a, k)], tT C q.1 q.2 := List.forall_mem_cons.mpr ⟨h, ta0⟩
theorem ta2 {C : CT} {a k b j : Nat} (h : tT C a k) (h2 : tT C b j) : ∀ q ∈ [(a, k), (b, j)], tT C q.1 q.2 := List.forall_mem_cons.mpr ⟨h, ta1 h2⟩
theorem ta3 {C : CT} {a k b j c i : Nat} (h : tT C a k) (h2 : tT C b j) (h3 : tT C c i) : ∀ q ∈ [(a, k), (b, j), (c, i)], tT C q.1 q.2 := List.forall_mem_cons.mpr ⟨h, ta2 h2 h3⟩
section
variable {α : Type} {C : CT} {cc : ByteArray} {nL : Nat} {own : String} {fr lo : Nat} {Q : α → State → Prop} {S : St} {vs : List (Option Value)} {st : List Value} {pc tgt : Nat}
theorem s_tabc (X : Cx C cc nL own fr lo) {dflt lo' hi' off : Int} {offs : Array Int} {len : Nat} (d : decode cc pc = .ok (.tableswitch dflt lo' hi' offs, len)) {x c : Int32} (h1 : ¬ c.toInt < lo') (h2 : ¬ hi' < c.toInt) (ho : offs[(c.toInt - lo').toNat]? = some off) (ht : (pc : Int) + off = (tgt : Int)) {f1 f2 : Option α} (k1 : Jd C nL Q S tgt vs st f1) (k2 : x ≠ c → Jd C nL Q S pc vs (.int x :: st) f2) : Jd C nL Q S pc vs (.int x :: st) (if x = c then f1 else f2) := by
  by_cases hx : x = c
  · rw [if_pos hx]
    subst hx
    obtain ⟨p, l, e, R, s, m, args, below, meth, c, A, G, cy, L, K, ce, sl⟩ := C
    intro out hF hw H locs ls hP hD hS hl
    exact lv_tableIn X.1 X.2.1 d h1 h2 ho ht (k1 out hF hw H locs ls hP hD hS hl)
  · rw [if_neg hx]
    exact k2 hx
theorem s_tabd (X : Cx C cc nL own fr lo) {dflt lo' hi' : Int} {offs : Array Int} {len : Nat} (d : decode cc pc = .ok (.tableswitch dflt lo' hi' offs, len)) {x : Int32} (h : x.toInt < lo' ∨ hi' < x.toInt) (ht : (pc : Int) + dflt = (tgt : Int)) {f : Option α} (k1 : Jd C nL Q S tgt vs st f) : Jd C nL Q S pc vs (.int x :: st) f := by
  obtain ⟨p, l, e, R, s, m, args, below, meth, c, A, G, cy, L, K, ce, sl⟩ := C
  intro out hF hw H locs ls hP hD hS hl
  exact lv_tableOut X.1 X.2.1 d h ht (k1 out hF hw H locs ls hP hD hS hl)
end
theorem tabout {x : Int32} {n : Nat} (hn : n < 2 ^ 31) (h : ∀ j : Nat, j < n → x ≠ Int32.ofNat j) : x.toInt < 0 ∨ ((n : Int) - 1) < x.toInt := by
  by_cases h0 : x.toInt < 0
  · exact Or.inl h0
  · by_cases h1 : ((n : Int) - 1) < x.toInt
    · exact Or.inr h1
    · exfalso
      have h2 : x.toInt.toNat < n := by omega
      refine h x.toInt.toNat h2 (Int32.toInt_inj.mp ?_)
      rw [show Int32.ofNat x.toInt.toNat = nI x.toInt.toNat from rfl, nI_toInt (by omega)]
      omega
