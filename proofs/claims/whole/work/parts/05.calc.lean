/-! the context of a method's run; the judgement J: if the program F answers, the machine comes to that answer -/
abbrev CT : Type := Program × Launch × Env × Room × State × MethodId × Array Value × List Frame × Method × Code × (Nat → Prop) × va_G × (Nat → ClassId) × List Nat × (Nat → Nat) × Nat × Nat
def tT (C : CT) (a k : Nat) : Prop := a ∈ C.2.2.2.2.2.2.2.2.2.2.2.2.2.1 ∧ C.2.2.2.2.2.2.2.2.2.2.2.2.2.2.1 a = k
def Jd {α : Type} (C : CT) (nL : Nat) (Q : α → State → Prop) (S : St) (pc : Nat) (vs : List (Option Value)) (st : List Value) (F : Option α) : Prop :=
  match C with
  | (p, l, e, R, s, m, args, below, meth, c, A, G, cy, L, K, ce, sl) => ∀ out, F = some out → WT L K S → ∀ (H : Heap) (locs : List Loc) (ls : Array Slot), va_P G vwCl (plw cy L K S) H → va_D A (plw cy L K S) → va_S A s.heap H locs → lvh ls nL vs → W p l e R s m args below meth c H locs ce sl (Q out) (F0 m pc ls st)
def Cx (C : CT) (cc : ByteArray) (nL : Nat) (own : String) (fr lo : Nat) : Prop :=
  match C with
  | (p, _, _, R, s, m, args, _, meth, c, A, G, cy, L, _, ce, sl) => p.tables.exec = Jvm.exec ∧ c.code = cc ∧ c.maxLocals = nL ∧ s.vm.findClass own = some m.cls ∧ (∀ w ∈ TT, w.before args s = true) ∧ va_K G vwCl (tys cy) s ∧ (∀ q, s.heap.size ≤ q → A q) ∧ meth.locks = false ∧ R.frames = fr ∧ R.locals = lo ∧ (∀ q ∈ L, A q) ∧ ce ≤ R.cells ∧ sl ≤ R.slots
theorem s_none {α : Type} {C : CT} {nL : Nat} {Q : α → State → Prop} {S : St} {pc : Nat} {vs : List (Option Value)} {st : List Value} : Jd C nL Q S pc vs st none := by
  obtain ⟨p, l, e, R, s, m, args, below, meth, c, A, G, cy, L, K, ce, sl⟩ := C
  intro out h
  cases h
/-! programs in the style of continuations -/
def lt {α : Type} {β : Type} (x : α) (k : α → Option β) : Option β := k x
def jn {κ : Type} {β : Type} (rest : κ) (body : κ → Option β) : Option β := body rest
def lp {κ : Type} (bot : κ) (body : κ → κ) : Nat → κ
  | 0 => bot
  | n + 1 => body (lp bot body n)
def ldI {β : Type} (S : St) (a : Nat) (i : Int32) (k : Int32 → Option β) : Option β := if i < 0 ∨ gN S a ≤ i.toNatClampNeg then none else k (gI S a i.toNatClampNeg)
def ldJ {β : Type} (S : St) (a : Nat) (i : Int32) (k : Int64 → Option β) : Option β := if i < 0 ∨ gN S a ≤ i.toNatClampNeg then none else k (gJ S a i.toNatClampNeg)
def ldR {β : Type} (S : St) (a : Nat) (i : Int32) (k : Nat → Option β) : Option β := if i < 0 ∨ gN S a ≤ i.toNatClampNeg then none else k (gR S a i.toNatClampNeg)
def stI {β : Type} (S : St) (a : Nat) (i : Int32) (v : Int32) (k : St → Option β) : Option β := if i < 0 ∨ gN S a ≤ i.toNatClampNeg then none else k (uI S a i.toNatClampNeg v)
def stJ {β : Type} (S : St) (a : Nat) (i : Int32) (v : Int64) (k : St → Option β) : Option β := if i < 0 ∨ gN S a ≤ i.toNatClampNeg then none else k (uJ S a i.toNatClampNeg v)
def cl {α : Type} {β : Type} (x : Option α) (k : α → Option β) : Option β := match x with
  | some v => k v
  | none => none
def nz {β : Type} (y : Int32) (k : Option β) : Option β := if y = 0 then none else k
def nzL {β : Type} (y : Int64) (k : Option β) : Option β := if y = 0 then none else k
def zc {β : Type} (y : Int32) (k : Option β) : Option β := if y = 0 ∨ y = 1 then k else none
/-- how often a loop may turn -/
def FU : Nat := 6000
theorem s_lp {κ : Type} {bot : κ} {body : κ → κ} (P : κ → Prop) (h0 : P bot) (hs : ∀ k, P k → P (body k)) : ∀ n, P (lp bot body n) := by
  intro n
  induction n with
  | zero => exact h0
  | succ n ih => exact hs _ ih
/-! the plain instructions, run at one stroke: a row of a method's table is (pc, op, k, v) -/
abbrev En : Type := Nat × Nat × Nat × Int32
def rl (q : En) : Instr × Nat := match q.2.1 with
  | 0 => (.iconst q.2.2.2.toInt, 1)
  | 1 => (.bipush q.2.2.2.toInt, 2)
  | 2 => (.sipush q.2.2.2.toInt, 3)
  | 3 => (.lconst (Fin.ofNat 2 q.2.2.1), 1)
  | 4 => (.iload_n (Fin.ofNat 4 q.2.2.1), 1)
  | 5 => (.iload q.2.2.1, 2)
  | 6 => (.lload_n (Fin.ofNat 4 q.2.2.1), 1)
  | 7 => (.lload q.2.2.1, 2)
  | 8 => (.aload_n (Fin.ofNat 4 q.2.2.1), 1)
  | 9 => (.aload q.2.2.1, 2)
  | 10 => (.istore_n (Fin.ofNat 4 q.2.2.1), 1)
  | 11 => (.istore q.2.2.1, 2)
  | 12 => (.lstore_n (Fin.ofNat 4 q.2.2.1), 1)
  | 13 => (.lstore q.2.2.1, 2)
  | 14 => (.astore_n (Fin.ofNat 4 q.2.2.1), 1)
  | 15 => (.astore q.2.2.1, 2)
  | 16 => (.iinc q.2.2.1 q.2.2.2.toInt, 3)
  | 17 => (.iadd, 1)
  | 18 => (.isub, 1)
  | 19 => (.imul, 1)
  | 20 => (.iand, 1)
  | 21 => (.ior, 1)
  | 22 => (.ineg, 1)
  | 23 => (.ladd, 1)
  | 24 => (.lsub, 1)
  | 25 => (.lmul, 1)
  | 26 => (.land, 1)
  | 27 => (.lor, 1)
  | 28 => (.lneg, 1)
  | 29 => (.ishl, 1)
  | 30 => (.ishr, 1)
  | 31 => (.i2l, 1)
  | 32 => (.l2i, 1)
  | 33 => (.i2b, 1)
  | 34 => (.lshl, 1)
  | 35 => (.lshr, 1)
  | 36 => (.dup, 1)
  | 37 => (.dup2, 1)
  | 38 => (.pop, 1)
  | 39 => (.pop2, 1)
  | 40 => (.lcmp, 1)
  | _ => (.goto ((q.2.2.1 : Int) - (q.1 : Int)), 3)
/-- what a constant's row must keep -/
def rlc (q : En) : Bool := match q.2.1 with
  | 0 => true
  | 1 => (Int8.ofInt q.2.2.2.toInt).toInt32 == q.2.2.2
  | 2 => (Int16.ofInt q.2.2.2.toInt).toInt32 == q.2.2.2
  | 3 => q.2.2.1 < 2
  | 4 => q.2.2.1 < 4
  | 6 => q.2.2.1 < 4
  | 8 => q.2.2.1 < 4
  | 10 => q.2.2.1 < 4
  | 12 => q.2.2.1 < 4
  | 14 => q.2.2.1 < 4
  | _ => true
def okE (cc : ByteArray) (q : En) : Bool := decide (decode cc q.1 = .ok (rl q)) && rlc q
/-- lconst 0 and 1 -/
def lc (k : Nat) : Int64 := if k = 0 then 0 else 1
def o_ld (i : Nat) (vs : List (Option Value)) (st : List Value) (t : Nat) : Option (List (Option Value) × List Value) := match vs[i]? with
  | some (some (.int x)) => if t = 0 then some (vs, .int x :: st) else none
  | some (some (.long x)) => if t = 1 then some (vs, .long x :: st) else none
  | some (some (.ref x)) => if t = 2 then some (vs, .ref x :: st) else none
  | _ => none
def o_st (nL i : Nat) (vs : List (Option Value)) (st : List Value) (t : Nat) : Option (List (Option Value) × List Value) := match st with
  | .int x :: r => if t = 0 ∧ i < nL then some (lvs i (.int x) 0 vs, r) else none
  | .long x :: r => if t = 1 ∧ i + 1 < nL then some (lvs i (.long x) 0 vs, r) else none
  | .ref x :: r => if t = 2 ∧ i < nL then some (lvs i (.ref x) 0 vs, r) else none
  | _ => none
def o_inc (nL i : Nat) (d : Int32) (vs : List (Option Value)) (st : List Value) : Option (List (Option Value) × List Value) := match vs[i]? with
  | some (some (.int x)) => if i < nL then some (lvs i (.int (x + d)) 0 vs, st) else none
  | _ => none
def o_ii (f : Int32 → Int32 → Int32) (vs : List (Option Value)) (st : List Value) : Option (List (Option Value) × List Value) := match st with
  | .int y :: .int x :: r => some (vs, .int (f x y) :: r)
  | _ => none
def o_ll (f : Int64 → Int64 → Int64) (vs : List (Option Value)) (st : List Value) : Option (List (Option Value) × List Value) := match st with
  | .long y :: .long x :: r => some (vs, .long (f x y) :: r)
  | _ => none
def o_li (f : Int64 → Int32 → Int64) (vs : List (Option Value)) (st : List Value) : Option (List (Option Value) × List Value) := match st with
  | .int y :: .long x :: r => some (vs, .long (f x y) :: r)
  | _ => none
def o_i (f : Int32 → Value) (vs : List (Option Value)) (st : List Value) : Option (List (Option Value) × List Value) := match st with
  | .int x :: r => some (vs, f x :: r)
  | _ => none
def o_l (f : Int64 → Value) (vs : List (Option Value)) (st : List Value) : Option (List (Option Value) × List Value) := match st with
  | .long x :: r => some (vs, f x :: r)
  | _ => none
def o_cmp (vs : List (Option Value)) (st : List Value) : Option (List (Option Value) × List Value) := match st with
  | .long y :: .long x :: r => some (vs, .int (lg_cmp x y) :: r)
  | _ => none
def o_dup (vs : List (Option Value)) (st : List Value) : Option (List (Option Value) × List Value) := match st with
  | .int x :: r => some (vs, .int x :: .int x :: r)
  | .ref x :: r => some (vs, .ref x :: .ref x :: r)
  | _ => none
def o_dup2 (vs : List (Option Value)) (st : List Value) : Option (List (Option Value) × List Value) := match st with
  | .long x :: r => some (vs, .long x :: .long x :: r)
  | .int x :: .int y :: r => some (vs, .int x :: .int y :: .int x :: .int y :: r)
  | .int x :: .ref y :: r => some (vs, .int x :: .ref y :: .int x :: .ref y :: r)
  | _ => none
def o_pop (vs : List (Option Value)) (st : List Value) : Option (List (Option Value) × List Value) := match st with
  | .int _ :: r => some (vs, r)
  | .ref _ :: r => some (vs, r)
  | _ => none
def o_pop2 (vs : List (Option Value)) (st : List Value) : Option (List (Option Value) × List Value) := match st with
  | .long _ :: r => some (vs, r)
  | _ => none
def stp (nL : Nat) (q : En) (vs : List (Option Value)) (st : List Value) : Option (List (Option Value) × List Value) := match q.2.1 with
  | 0 => some (vs, .int q.2.2.2 :: st)
  | 1 => some (vs, .int q.2.2.2 :: st)
  | 2 => some (vs, .int q.2.2.2 :: st)
  | 3 => some (vs, .long (lc q.2.2.1) :: st)
  | 4 => o_ld q.2.2.1 vs st 0
  | 5 => o_ld q.2.2.1 vs st 0
  | 6 => o_ld q.2.2.1 vs st 1
  | 7 => o_ld q.2.2.1 vs st 1
  | 8 => o_ld q.2.2.1 vs st 2
  | 9 => o_ld q.2.2.1 vs st 2
  | 10 => o_st nL q.2.2.1 vs st 0
  | 11 => o_st nL q.2.2.1 vs st 0
  | 12 => o_st nL q.2.2.1 vs st 1
  | 13 => o_st nL q.2.2.1 vs st 1
  | 14 => o_st nL q.2.2.1 vs st 2
  | 15 => o_st nL q.2.2.1 vs st 2
  | 16 => o_inc nL q.2.2.1 q.2.2.2 vs st
  | 17 => o_ii (fun x y => x + y) vs st
  | 18 => o_ii (fun x y => x - y) vs st
  | 19 => o_ii (fun x y => x * y) vs st
  | 20 => o_ii (fun x y => x &&& y) vs st
  | 21 => o_ii (fun x y => x ||| y) vs st
  | 22 => o_i (fun x => .int (-x)) vs st
  | 23 => o_ll (fun x y => x + y) vs st
  | 24 => o_ll (fun x y => x - y) vs st
  | 25 => o_ll (fun x y => x * y) vs st
  | 26 => o_ll (fun x y => x &&& y) vs st
  | 27 => o_ll (fun x y => x ||| y) vs st
  | 28 => o_l (fun x => .long (-x)) vs st
  | 29 => o_ii (fun x y => x <<< (y &&& 31)) vs st
  | 30 => o_ii (fun x y => x >>> (y &&& 31)) vs st
  | 31 => o_i (fun x => .long x.toInt64) vs st
  | 32 => o_l (fun x => .int x.toInt32) vs st
  | 33 => o_i (fun x => .int x.toInt8.toInt32) vs st
  | 34 => o_li (fun x y => x <<< (y.toInt64 &&& 63)) vs st
  | 35 => o_li (fun x y => x >>> (y.toInt64 &&& 63)) vs st
  | 36 => o_dup vs st
  | 37 => o_dup2 vs st
  | 38 => o_pop vs st
  | 39 => o_pop2 vs st
  | 40 => o_cmp vs st
  | _ => some (vs, st)
def nxt (q : En) : Nat := if q.2.1 ≤ 40 then q.1 + (rl q).2 else q.2.2.1
def runp (nL : Nat) : List En → Nat → List (Option Value) → List Value → Option (Nat × List (Option Value) × List Value)
  | [], pc, vs, st => some (pc, vs, st)
  | q :: r, pc, vs, st => if q.1 = pc then (match stp nL q vs st with
    | some u => runp nL r (nxt q) u.1 u.2
    | none => none) else none
