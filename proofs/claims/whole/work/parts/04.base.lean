/-! the words: all of the tables that are good -/
def TT : List Cond := lw_tbl.filter goodWord
theorem TT_lw {w : Cond} (h : w ∈ TT) : w ∈ lw_tbl := (List.mem_filter.mp h).1
theorem TT_good {w : Cond} (h : w ∈ TT) : goodWord w = true := (List.mem_filter.mp h).2
theorem TT_at {w : Cond} (i : Nat) (h : lw_tbl[i]? = some w) (hg : goodWord w = true) : w ∈ TT := List.mem_filter.mpr ⟨List.mem_of_getElem? h, hg⟩
theorem gd_of {cx : Cond} {ws : List Cond} (h : ∀ w ∈ ws, w ∈ TT) : GoodIn (cx :: TT) ws := fun w hw => ⟨List.mem_cons_of_mem _ (h w hw), good_of_word (TT_good (h w hw))⟩
/-! the state of the pool: ints, longs, references, lengths, each by address and place -/
abbrev St : Type := (Nat → Nat → Int32) × (Nat → Nat → Int64) × (Nat → Nat → Nat) × (Nat → Nat)
def gI (S : St) (a i : Nat) : Int32 := S.1 a i
def gJ (S : St) (a i : Nat) : Int64 := S.2.1 a i
def gR (S : St) (a i : Nat) : Nat := S.2.2.1 a i
def gN (S : St) (a : Nat) : Nat := S.2.2.2 a
def up2 {α : Type} (f : Nat → Nat → α) (a i : Nat) (v : α) : Nat → Nat → α := fun b j => if b = a then (if j = i then v else f b j) else f b j
def uI (S : St) (a i : Nat) (v : Int32) : St := (up2 S.1 a i v, S.2)
def uJ (S : St) (a i : Nat) (v : Int64) : St := (S.1, up2 S.2.1 a i v, S.2.2)
def uR (S : St) (a i : Nat) (v : Nat) : St := (S.1, S.2.1, up2 S.2.2.1 a i v, S.2.2.2)
/-- the fields of the kinds: 0 int, 1 long, 2 reference -/
def lay : Nat → List Nat := fun k => match k with
  | 0 => [2, 2, 2, 2, 2, 2, 0]
  | 1 => [2, 2, 2, 2, 2, 2, 2]
  | 2 => [2, 2, 2, 2, 2, 2, 2, 2, 0]
  | 3 => [2, 2, 2, 0]
  | 4 => [2, 0]
  | 5 => [2, 2, 2, 2, 2, 2, 2, 0, 0]
  | 6 => [2, 2, 2, 2, 0]
  | 7 => [2, 2, 2, 2, 0, 0, 1, 0, 0, 1, 0, 0]
  | 8 => [2, 0, 0, 0, 0, 0, 0, 0]
  | 9 => [2, 2, 2, 2, 2, 2]
  | 10 => [2, 2, 2, 2, 2, 2, 2, 2, 2, 0, 0]
  | 11 => [2, 2, 0, 2, 2, 2, 2, 0, 2, 0, 0, 0, 0, 0, 0, 0, 1, 2, 2, 0, 0, 0]
  | _ => []
/-- of what kind the references of a kind are -/
def rt : Nat → Nat → Nat := fun k i => match k with
  | 0 => 14
  | 1 => [7, 3, 6, 2, 9, 0, 14].getD i 99
  | 2 => [12, 13, 13, 13, 13, 13, 13, 14].getD i 99
  | 3 => 13
  | 4 => 12
  | 5 => [13, 13, 13, 13, 13, 15, 14].getD i 99
  | 6 => [13, 13, 13, 14].getD i 99
  | 7 => [13, 13, 14, 13].getD i 99
  | 8 => 12
  | 9 => [13, 13, 13, 14, 13, 13].getD i 99
  | 10 => [8, 4, 3, 16, 15, 1, 1, 5, 5].getD i 99
  | 11 => [14, 15, 99, 15, 15, 14, 12, 99, 12, 99, 99, 99, 99, 99, 99, 99, 99, 13, 13].getD i 99
  | 16 => 1
  | _ => 99
def fv (S : St) (a i t : Nat) : Value := if t = 0 then .int (gI S a i) else if t = 1 then .long (gJ S a i) else .ref (gR S a i)
def fvs (S : St) (a : Nat) : Nat → List Nat → List Value
  | _, [] => []
  | i, t :: ts => fv S a i t :: fvs S a (i + 1) ts
def ent (cy : Nat → ClassId) (K : Nat → Nat) (S : St) (a : Nat) : va_E :=
  if K a = 12 then .inl (cy 0, gN S a, .inl (S.1 a)) else if K a = 13 then .inl (cy 1, gN S a, .inl (S.1 a)) else if K a = 14 then .inl (cy 2, gN S a, .inr (.inl (S.2.1 a)))
  else if K a = 15 then .inl (cy 3, gN S a, .inl (S.1 a)) else if K a = 16 then .inl (cy 4, gN S a, .inr (.inr (.inr (.inr (fun i => some (S.2.2.1 a i))))))
  else .inr (K a, fvs S a 0 (lay (K a)))
def plw (cy : Nat → ClassId) (L : List Nat) (K : Nat → Nat) (S : St) : va_W := va_pl L (ent cy K S)
abbrev tys (cy : Nat → ClassId) : List (ClassId × FieldType) := [(cy 0, .byte), (cy 1, .int), (cy 2, .long), (cy 3, .boolean), (cy 4, .object "FranchiseLedger$Business")]
/-- every reference of the pool leads into the pool, to its kind -/
def WT (L : List Nat) (K : Nat → Nat) (S : St) : Prop := ∀ a ∈ L, ∀ k : Nat, ((lay (K a))[k]? = some 2 ∨ (K a = 16 ∧ k < gN S a)) → gR S a k ∈ L ∧ K (gR S a k) = rt (K a) k
theorem fvs_at (S : St) (a : Nat) : ∀ (ts : List Nat) (i k t : Nat), ts[k]? = some t → (fvs S a i ts)[k]? = some (fv S a (i + k) t) := by
  intro ts
  induction ts with
  | nil => intro i k t h; simp at h
  | cons t0 ts ih =>
    intro i k t h
    cases k with
    | zero => simp at h; subst h; simp [fvs]
    | succ k =>
      have h2 : ts[k]? = some t := by simpa using h
      have := ih (i + 1) k t h2
      simp only [fvs, List.getElem?_cons_succ]
      rw [this, show i + 1 + k = i + (k + 1) by omega]
theorem fvs_len (S : St) (a : Nat) : ∀ (ts : List Nat) (i : Nat), (fvs S a i ts).length = ts.length := by
  intro ts
  induction ts with
  | nil => intro i; rfl
  | cons t0 ts ih => intro i; simp [fvs, ih]
theorem fvs_eq {S S' : St} {a b : Nat} : ∀ (ts : List Nat) (i : Nat), (∀ k t, ts[k]? = some t → fv S a (i + k) t = fv S' b (i + k) t) → fvs S a i ts = fvs S' b i ts := by
  intro ts
  induction ts with
  | nil => intro i h; rfl
  | cons t0 ts ih =>
    intro i h
    have h0 := h 0 t0 rfl
    simp only [fvs]
    rw [show fv S a i t0 = fv S' b i t0 from h0, ih (i + 1) (fun k t hk => by have := h (k + 1) t (by simpa using hk); rw [show i + 1 + k = i + (k + 1) by omega]; exact this)]
theorem fvs_set {S S' : St} {a : Nat} (v : Value) : ∀ (ts : List Nat) (i k t : Nat), ts[k]? = some t → fv S' a (i + k) t = v → (∀ j u, ts[j]? = some u → j ≠ k → fv S' a (i + j) u = fv S a (i + j) u) → (fvs S a i ts).set k v = fvs S' a i ts := by
  intro ts
  induction ts with
  | nil => intro i k t h; simp at h
  | cons t0 ts ih =>
    intro i k t h hv ho
    cases k with
    | zero =>
      simp at h
      subst h
      simp only [fvs, List.set_cons_zero]
      rw [show fv S' a i t0 = v from hv, fvs_eq (S := S) (S' := S') (a := a) (b := a) ts (i + 1) (fun k t hk => by
        have := ho (k + 1) t (by simpa using hk) (by omega)
        rw [show i + 1 + k = i + (k + 1) by omega]
        exact this.symm)]
    | succ k =>
      have h2 : ts[k]? = some t := by simpa using h
      simp only [fvs, List.set_cons_succ]
      rw [ih (i + 1) k t h2 (by rw [show i + 1 + k = i + (k + 1) by omega]; exact hv) (fun j u hj hne => by
        have := ho (j + 1) u (by simpa using hj) (by omega)
        rw [show i + 1 + j = i + (j + 1) by omega]
        exact this), show fv S' a i t0 = fv S a i t0 from ho 0 t0 rfl (by omega)]
theorem up2_ne {α : Type} (f : Nat → Nat → α) {a b : Nat} (i : Nat) (v : α) (h : b ≠ a) : up2 f a i v b = f b := by funext j; simp [up2, h]
theorem up2_row {α : Type} (f : Nat → Nat → α) (a i : Nat) (v : α) : up2 f a i v a = fun j => if j = i then v else f a j := by funext j; simp [up2]
theorem ent_uI {cy : Nat → ClassId} {K : Nat → Nat} (S : St) {a b : Nat} (i : Nat) (v : Int32) (h : b ≠ a) : ent cy K (uI S a i v) b = ent cy K S b := by
  have e : (uI S a i v).1 b = S.1 b := up2_ne _ _ _ h
  simp only [ent]
  rw [e]
  rw [fvs_eq (S := uI S a i v) (S' := S) (a := b) (b := b) (lay (K b)) 0 (fun k t _ => by simp only [fv, gI, gJ, gR]; rw [e]; rfl)]
  rfl
theorem ent_uJ {cy : Nat → ClassId} {K : Nat → Nat} (S : St) {a b : Nat} (i : Nat) (v : Int64) (h : b ≠ a) : ent cy K (uJ S a i v) b = ent cy K S b := by
  have e : (uJ S a i v).2.1 b = S.2.1 b := up2_ne _ _ _ h
  simp only [ent]
  rw [e]
  rw [fvs_eq (S := uJ S a i v) (S' := S) (a := b) (b := b) (lay (K b)) 0 (fun k t _ => by simp only [fv, gI, gJ, gR]; rw [e]; rfl)]
  rfl
theorem ent_uR {cy : Nat → ClassId} {K : Nat → Nat} (S : St) {a b : Nat} (i : Nat) (v : Nat) (h : b ≠ a) : ent cy K (uR S a i v) b = ent cy K S b := by
  have e : (uR S a i v).2.2.1 b = S.2.2.1 b := up2_ne _ _ _ h
  simp only [ent]
  rw [e]
  rw [fvs_eq (S := uR S a i v) (S' := S) (a := b) (b := b) (lay (K b)) 0 (fun k t _ => by simp only [fv, gI, gJ, gR]; rw [e]; rfl)]
  rfl
theorem pl_get {cy : Nat → ClassId} {L : List Nat} {K : Nat → Nat} {S : St} {a : Nat} (h : a ∈ L) : ∃ k : Nat, (plw cy L K S)[k]? = some (a, ent cy K S a) := va_pl_get (X := []) h
theorem pl_set {cy : Nat → ClassId} {L : List Nat} {K : Nat → Nat} {S S' : St} {A : Nat → Prop} {a k : Nat} {e : va_E} (hD : va_D A (plw cy L K S)) (h : a ∈ L) (hk : (plw cy L K S)[k]? = some (a, ent cy K S a)) (he : e = ent cy K S' a) (ho : ∀ b, b ≠ a → ent cy K S' b = ent cy K S b) : (plw cy L K S).set k (a, e) = plw cy L K S' := by
  have h1 := va_pl_set (X := []) (e := e) hD h hk
  rw [show (plw cy L K S).set k (a, e) = ([] ++ va_pl L (ent cy K S)).set k (a, e) from rfl, h1]
  show va_pl L _ = va_pl L _
  refine va_pl_congr (fun b => ?_)
  by_cases hb : b = a
  · subst hb
    simp [va_up, he]
  · simp [va_up, hb, ho b hb]
theorem WT_uI {L : List Nat} {K : Nat → Nat} {S : St} {a i : Nat} {v : Int32} (h : WT L K S) : WT L K (uI S a i v) := h
theorem WT_uJ {L : List Nat} {K : Nat → Nat} {S : St} {a i : Nat} {v : Int64} (h : WT L K S) : WT L K (uJ S a i v) := h
theorem WT_uR {L : List Nat} {K : Nat → Nat} {S : St} {a i : Nat} {v : Nat} (h : WT L K S) (hv : v ∈ L ∧ K v = rt (K a) i) : WT L K (uR S a i v) := by
  intro b hb k hk
  have hk' : (lay (K b))[k]? = some 2 ∨ (K b = 16 ∧ k < gN S b) := hk
  have := h b hb k hk'
  simp only [gR, uR, up2] at this ⊢
  by_cases h1 : b = a
  · by_cases h2 : k = i
    · subst h1; subst h2; simpa using hv
    · simpa [h1, h2] using (h1 ▸ this)
  · simpa [h1] using this
/-! the locals by their numbers -/
def lvh (ls : Array Slot) (nL : Nat) (vs : List (Option Value)) : Prop := ls.size = nL ∧ lv_wf ls ∧ ∀ (i : Nat) (v : Value), vs[i]? = some (some v) → ls[i]? = some (.val v)
def prs : Nat → List (Option Value) → List (Nat × Value)
  | _, [] => []
  | i, none :: r => prs (i + 1) r
  | i, some v :: r => (i, v) :: prs (i + 1) r
theorem prs_mem : ∀ (vs : List (Option Value)) (i k : Nat) (v : Value), vs[k]? = some (some v) → (i + k, v) ∈ prs i vs := by
  intro vs
  induction vs with
  | nil => intro i k v h; simp at h
  | cons o r ih =>
    intro i k v h
    cases k with
    | zero => simp at h; subst h; simp [prs]
    | succ k =>
      have h2 : r[k]? = some (some v) := by simpa using h
      have := ih (i + 1) k v h2
      rw [show i + 1 + k = i + (k + 1) by omega] at this
      cases o with
      | none => simpa [prs] using this
      | some w => simp only [prs]; exact List.mem_cons_of_mem _ this
theorem prs_of : ∀ (vs : List (Option Value)) (i : Nat) (q : Nat × Value), q ∈ prs i vs → ∃ k, q.1 = i + k ∧ vs[k]? = some (some q.2) := by
  intro vs
  induction vs with
  | nil => intro i q h; simp [prs] at h
  | cons o r ih =>
    intro i q h
    cases o with
    | none =>
      obtain ⟨k, h1, h2⟩ := ih (i + 1) q (by simpa [prs] using h)
      exact ⟨k + 1, by omega, by simpa using h2⟩
    | some w =>
      simp only [prs] at h
      rcases List.mem_cons.mp h with h | h
      · subst h; exact ⟨0, rfl, rfl⟩
      · obtain ⟨k, h1, h2⟩ := ih (i + 1) q h
        exact ⟨k + 1, by omega, by simpa using h2⟩
theorem lvh.has {ls : Array Slot} {nL : Nat} {vs : List (Option Value)} (h : lvh ls nL vs) : lv_has ls nL (prs 0 vs) := ⟨h.1, h.2.1, fun q hq => by
  obtain ⟨k, h1, h2⟩ := prs_of vs 0 q hq
  rw [h1, Nat.zero_add]
  exact h.2.2 k q.2 h2⟩
/-- a store: place i gets v; a long over it goes; what lay behind a long's first half goes -/
def lvs (i : Nat) (v : Value) : Nat → List (Option Value) → List (Option Value)
  | _, [] => []
  | j, o :: r => (if j = i then some v else if j + 1 = i then (match o with | some w => if w.category = 2 then none else some w | none => none) else if j = i + 1 then (if v.category = 2 then none else o) else o) :: lvs i v (j + 1) r
theorem lvs_at (i : Nat) (v : Value) : ∀ (vs : List (Option Value)) (j k : Nat) (w : Value), (lvs i v j vs)[k]? = some (some w) → (j + k = i ∧ w = v) ∨ (vs[k]? = some (some w) ∧ j + k ≠ i ∧ ¬ (j + k + 1 = i ∧ w.category = 2) ∧ (v.category = 2 → j + k ≠ i + 1)) := by
  intro vs
  induction vs with
  | nil => intro j k w h; simp [lvs] at h
  | cons o r ih =>
    intro j k w h
    cases k with
    | zero =>
      simp only [lvs, List.getElem?_cons_zero, Option.some.injEq] at h
      by_cases h1 : j = i
      · left; simp [h1] at h; exact ⟨by omega, h.symm⟩
      · rw [if_neg h1] at h
        right
        by_cases h2 : j + 1 = i
        · rw [if_pos h2] at h
          cases o with
          | none => simp at h
          | some u =>
            by_cases h3 : u.category = 2
            · simp [h3] at h
            · simp [h3] at h; subst h
              exact ⟨rfl, by omega, fun q => h3 q.2, fun _ => by omega⟩
        · rw [if_neg h2] at h
          by_cases h3 : j = i + 1
          · rw [if_pos h3] at h
            by_cases h4 : v.category = 2
            · simp [h4] at h
            · rw [if_neg h4] at h
              exact ⟨by simp [h], by omega, fun q => h2 q.1, fun q => absurd q h4⟩
          · rw [if_neg h3] at h
            exact ⟨by simp [h], by omega, fun q => h2 q.1, fun _ => by omega⟩
    | succ k =>
      simp only [lvs, List.getElem?_cons_succ] at h
      rcases ih (j + 1) k w h with ⟨h1, h2⟩ | ⟨h1, h2, h3, h4⟩
      · exact Or.inl ⟨by omega, h2⟩
      · refine Or.inr ⟨by simpa using h1, by omega, fun q => h3 ⟨by omega, q.2⟩, fun q => ?_⟩
        have := h4 q
        omega
theorem lvh_store1 {ls ls' : Array Slot} {nL i : Nat} {v : Value} {vs : List (Option Value)} (h : lv_has ls' nL ((i, v) :: (prs 0 vs).filter (fun q => !(q.1 == i) && !(q.1 + 1 == i && q.2.category == 2)))) : lvh ls' nL (lvs i v 0 vs) := by
  refine ⟨h.1, h.2.1, fun k w hk => ?_⟩
  rcases lvs_at i v vs 0 k w hk with ⟨h1, h2⟩ | ⟨h1, h2, h3, h4⟩
  · have := h.2.2 (i, v) List.mem_cons_self
    rw [h2, show k = i by omega]
    exact this
  · have hm := prs_mem vs 0 k w h1
    rw [Nat.zero_add] at hm h2 h3
    refine h.2.2 (k, w) (List.mem_cons_of_mem _ (List.mem_filter.mpr ⟨hm, ?_⟩))
    simp only [Bool.and_eq_true, Bool.not_eq_true', beq_eq_false_iff_ne, ne_eq]
    refine ⟨h2, ?_⟩
    rcases lv_cat w with hc | hc
    · simp [hc]
    · have : ¬ (k + 1 = i) := fun q => h3 ⟨q, hc⟩
      simp [this]
theorem lvh_store2 {ls ls' : Array Slot} {nL i : Nat} {x : Int64} {vs : List (Option Value)} (h : lv_has ls' nL ((i, Value.long x) :: (prs 0 vs).filter (fun q => !(q.1 == i) && (!(q.1 == i + 1) && !(q.1 + 1 == i && q.2.category == 2))))) : lvh ls' nL (lvs i (.long x) 0 vs) := by
  refine ⟨h.1, h.2.1, fun k w hk => ?_⟩
  rcases lvs_at i _ vs 0 k w hk with ⟨h1, h2⟩ | ⟨h1, h2, h3, h4⟩
  · have := h.2.2 (i, Value.long x) List.mem_cons_self
    rw [h2, show k = i by omega]
    exact this
  · have hm := prs_mem vs 0 k w h1
    rw [Nat.zero_add] at hm h2 h3 h4
    have h5 := h4 rfl
    refine h.2.2 (k, w) (List.mem_cons_of_mem _ (List.mem_filter.mpr ⟨hm, ?_⟩))
    simp only [Bool.and_eq_true, Bool.not_eq_true', beq_eq_false_iff_ne, ne_eq]
    refine ⟨h2, h5, ?_⟩
    rcases lv_cat w with hc | hc
    · simp [hc]
    · have : ¬ (k + 1 = i) := fun q => h3 ⟨q, hc⟩
      simp [this]
/-- fewer locals -/
def lvm : List Bool → List (Option Value) → List (Option Value)
  | b :: bs, o :: r => (if b then o else none) :: lvm bs r
  | _, _ => []
theorem lvm_at : ∀ (bs : List Bool) (vs : List (Option Value)) (k : Nat) (v : Value), (lvm bs vs)[k]? = some (some v) → vs[k]? = some (some v) := by
  intro bs
  induction bs with
  | nil => intro vs k v h; simp [lvm] at h
  | cons b bs ih =>
    intro vs k v h
    cases vs with
    | nil => simp [lvm] at h
    | cons o r =>
      cases k with
      | zero =>
        simp only [lvm, List.getElem?_cons_zero, Option.some.injEq] at h
        cases b with
        | true => simpa using h
        | false => simp at h
      | succ k =>
        simp only [lvm, List.getElem?_cons_succ] at h
        simpa using ih r k v h
theorem lvh.less {ls : Array Slot} {nL : Nat} {vs : List (Option Value)} (h : lvh ls nL vs) (bs : List Bool) : lvh ls nL (lvm bs vs) := ⟨h.1, h.2.1, fun i v hi => h.2.2 i v (lvm_at bs vs i v hi)⟩
