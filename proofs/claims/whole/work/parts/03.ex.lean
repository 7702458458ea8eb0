/-! what else a run stands on: words that are not steady, the texts, statics of Throwable and String -/
def isN : Cond → Bool
  | .methodLinkNest _ _ _ _ => true
  | .castable _ _ => true
  | .declares _ => true
  | _ => false
def NW : List Cond := lw_tbl.filter isN
def nS : Nat := 26
def lenS : List Nat := [4, 10, 4, 6, 6, 8, 5, 3, 5, 5, 5, 7, 3, 5, 8, 4, 5, 3, 2, 8, 4, 10, 6, 10, 5, 9]
def bytS : List (List Int32) := [[112, 108, 97, 110], [102, 114, 97, 110, 99, 104, 105, 115, 101, 101], [97, 114, 101, 97], [111, 117, 116, 108, 101, 116], [99, 114, 101, 100, 105, 116], [105, 110, 116, 101, 114, 101, 115, 116], [97, 100, 109, 105, 110], [102, 101, 101], [100, 101, 108, 97, 121], [119, 111, 114, 116, 104], [115, 97, 108, 101, 115], [100, 101, 108, 105, 118, 101, 114], [112, 97, 121], [103, 114, 97, 110, 116], [99, 97, 109, 112, 97, 105, 103, 110], [118, 111, 116, 101], [99, 108, 111, 115, 101], [121, 101, 115], [110, 111], [114, 111, 121, 97, 108, 116, 121, 32], [32, 97, 100, 32], [32, 105, 110, 116, 101, 114, 101, 115, 116, 32], [32, 112, 97, 105, 100, 32], [32, 114, 101, 99, 101, 105, 118, 101, 100, 32], [32, 100, 117, 101, 32], [32, 98, 97, 108, 97, 110, 99, 101, 32]]
/-- the String constants: class, entry, text, the number of its address -/
def SR : List (String × Nat × String × Nat) := [("FranchiseLedger$SystemReader", 31, "plan", 100), ("FranchiseLedger$SystemReader", 47, "franchisee", 102), ("FranchiseLedger$Tokens", 54, "plan", 100), ("FranchiseLedger$Tokens", 60, "franchisee", 102), ("FranchiseLedger$Tokens", 62, "area", 104), ("FranchiseLedger$Tokens", 64, "outlet", 106), ("FranchiseLedger$Tokens", 66, "credit", 108), ("FranchiseLedger$Tokens", 68, "interest", 110), ("FranchiseLedger$Tokens", 70, "admin", 112), ("FranchiseLedger$Tokens", 72, "fee", 114), ("FranchiseLedger$Tokens", 74, "delay", 116), ("FranchiseLedger$Tokens", 76, "worth", 118), ("FranchiseLedger$SystemReader", 52, "area", 104), ("FranchiseLedger$SystemReader", 57, "outlet", 106), ("FranchiseLedger$SystemReader", 68, "credit", 108), ("FranchiseLedger$SystemReader", 85, "interest", 110), ("FranchiseLedger$SystemReader", 90, "admin", 112), ("FranchiseLedger$SystemReader", 95, "fee", 114), ("FranchiseLedger$SystemReader", 99, "delay", 116), ("FranchiseLedger$SystemReader", 103, "worth", 118), ("FranchiseLedger$Journal", 78, "sales", 120), ("FranchiseLedger$Journal", 84, "deliver", 122), ("FranchiseLedger$Journal", 86, "pay", 124), ("FranchiseLedger$Journal", 88, "grant", 126), ("FranchiseLedger$Journal", 90, "campaign", 128), ("FranchiseLedger$Journal", 92, "vote", 130), ("FranchiseLedger$Journal", 94, "close", 132), ("FranchiseLedger$Tokens", 94, "yes", 134), ("FranchiseLedger$Tokens", 96, "no", 136), ("FranchiseLedger", 428, "an argument is out of range", 10), ("FranchiseLedger", 405, "no such franchisee", 11), ("FranchiseLedger", 411, "no such outlet", 12), ("FranchiseLedger", 413, "no such plan", 13), ("FranchiseLedger", 425, "all months are closed", 14), ("FranchiseLedger", 417, "not a closed month", 15), ("FranchiseLedger$InvoiceText", 19, "royalty ", 138), ("FranchiseLedger$InvoiceText", 31, " ad ", 140), ("FranchiseLedger$InvoiceText", 33, " interest ", 142), ("FranchiseLedger$InvoiceText", 35, " paid ", 144), ("FranchiseLedger$InvoiceText", 37, " received ", 146), ("FranchiseLedger$InvoiceText", 39, " due ", 148), ("FranchiseLedger$InvoiceText", 41, " balance ", 150)]
def EX (cy : Nat → ClassId) (A : Nat → Prop) (U : State) : Prop := (∀ w ∈ NW, va_Nw w U) ∧ vk_S nS lenS bytS (fun i => cy (100 + 2 * i)) (fun i => cy (101 + 2 * i)) A U U.heap ∧ (∀ q ∈ SR, vk_R q.1 q.2.1 q.2.2.1 (cy q.2.2.2) U) ∧ vx_Zq Bundle.tN "UNASSIGNED_STACK" Bundle.steD A U U.heap ∧ vx_Zq Bundle.tN "SUPPRESSED_SENTINEL" Bundle.listD A U U.heap ∧ va_Z "java/lang/String" "COMPACT_STRINGS" "Z" (.int 1) A U U.heap ∧ va_Nc "java/lang/IllegalArgumentException" "java/lang/IndexOutOfBoundsException" U ∧ va_Nc "java/lang/IllegalStateException" "java/lang/IndexOutOfBoundsException" U ∧ va_Nc "java/lang/IllegalStateException" "java/lang/IllegalArgumentException" U ∧ va_Zq "jdk/internal/util/Preconditions" "SIOOBE_FORMATTER" "Ljava/util/function/BiFunction;" A U U.heap
theorem NW_warm {s U : State} (hW : s.WarmedH U.vm) (h : ∀ w ∈ NW, va_Nw w s) : ∀ w ∈ NW, va_Nw w U := by
  intro w hw
  have h1 := (List.mem_filter.mp hw).2
  have h2 := h w hw
  cases w with
  | methodLinkNest a i x y => exact va_Nw.warmM hW h2
  | castable a b => exact va_Nw.warmC hW h2
  | declares x => exact va_Nw.warmD hW h2
  | _ => cases h1
theorem EX_call {cy : Nat → ClassId} {A A1 : Nat → Prop} {s U : State} {H : Heap} {locs : List Loc} (h : EX cy A s) (hS : va_S A s.heap H locs) (hU : U.heap = H) (hW : s.WarmedH U.vm) (hA : ∀ q, A1 q → A q) : EX cy A1 U := by
  obtain ⟨h1, h2, h3, h4, h5, h6, h7, h8, h9, h10⟩ := h
  rw [EX, hU]
  exact ⟨NW_warm hW h1, ((h2.kept hS.2.1).moved hW.alike).narrow hA, fun q hq => (h3 q hq).warm hW, ((h4.kept hS.2.1).moved hW.alike).narrow hA, ((h5.kept hS.2.1).moved hW.alike).narrow hA, ((h6.kept hS.2.1).moved hW.alike).narrow hA, h7.moved hW.alike, h8.moved hW.alike, h9.moved hW.alike, ((h10.kept hS.2.1).moved hW.alike).narrow hA⟩
theorem EX_blind {cy : Nat → ClassId} {A : Nat → Prop} {U : State} {g : JFrame} {mk : MethodId} {a : Array Value} (h : EX cy A U) : EX cy A (U.calling g mk a) := by
  obtain ⟨h1, h2, h3, h4, h5, h6, h7, h8, h9, h10⟩ := h
  have e : U.vm.Alike (U.calling g mk a).vm := Vm.Alike.refl U.vm
  refine ⟨fun w hw => ?_, h2.moved e, fun q hq => vk_R.same (u := U) rfl (h3 q hq), h4.moved e, h5.moved e, h6.moved e, h7.moved e, h8.moved e, h9.moved e, h10.moved e⟩
  have h11 := (List.mem_filter.mp hw).2
  have h12 := h1 w hw
  cases w with
  | methodLinkNest a i x y => exact va_Nw.same rfl (u := U) rfl h12
  | castable a b => exact va_Nw.same rfl (u := U) rfl h12
  | declares x => exact va_Nw.same rfl (u := U) rfl h12
  | _ => cases h11
