/-! THE ABSTRACT MACHINE: values, cells, heaps; when a heap of the machine holds an abstract one. -/
abbrev AV : Type := Int ⊕ (Int ⊕ Option Nat)
abbrev vi (z : Int) : AV := Sum.inl z
abbrev vl (z : Int) : AV := Sum.inr (Sum.inl z)
abbrev vr (a : Nat) : AV := Sum.inr (Sum.inr (some a))
def cv : AV → Value
  | .inl z => .int (Int32.ofInt z)
  | .inr (.inl z) => .long (Int64.ofInt z)
  | .inr (.inr r) => va_rf r
/-- a cell: its kind, how many places, what they hold (numbers, references) -/
abbrev AC : Type := Nat × Int × (Int → Int) × (Int → Option Nat)
/-- a heap: its known cells; how many cells there are in all; how many slots have been made -/
abbrev AH : Type := (Nat → Option AC) × Nat × Nat
def am_sv (ty : FieldType) (z : Int) (r : Option Nat) : Value := match ty with
  | .int => .int (Int32.ofInt z)
  | .boolean => .int (Int32.ofInt z)
  | .byte => .int (Int32.ofInt z)
  | .long => .long (Int64.ofInt z)
  | _ => va_rf r
/-- the fields' types of the class with number k in vwCl -/
def am_fty (k : Nat) : Nat → FieldType := match k with
  | 0 => tyX0 | 1 => tyX2 | 2 => tyX3 | 3 => tyX4 | 4 => tyX5 | 5 => tyX6 | 6 => tyX7 | 7 => tyX8 | 8 => tyX9 | 9 => tyX10 | 10 => tyX11 | 11 => tyX12 | 12 => tyJ0 | _ => tyJ4
/-- what an array of kind k holds -/
def am_ety (k : Nat) : FieldType := match k with
  | 100 => .int
  | 101 => .byte
  | 102 => .long
  | 103 => .object "CornerClaims$Board"
  | 104 => .object "CornerClaims$Shape"
  | 106 => .object "CornerClaimsLaw$Shape"
  | 107 => .object "CornerClaimsLaw$Field"
  | _ => .array .int
/-- the static o.n : d lies in the cell a, and holds v -/
def am_Sa (o n d : String) (v : Value) (s : State) (H : Heap) (a : Nat) : Prop := ∃ (cf : ClassId) (kf : Class) (fi : Nat) (f : Field) (cell : Cell), s.fieldFound? o n d = some (cf, kf, fi, f) ∧ f.isStatic = true ∧ kf.init = .initialized ∧ kf.statics = some a ∧ H[a]? = some cell ∧ cell.vm.isStatics = true ∧ cell.slots[f.slot]? = some v
theorem am_Sa.moved {o n d : String} {v : Value} {s U : State} {H : Heap} {a : Nat} (hvm : s.vm.Alike U.vm) (h : am_Sa o n d v s H a) : am_Sa o n d v U H a := by
  obtain ⟨cf, kf, fi, f, cell, h1, h2, h3, h4, h5⟩ := h
  obtain ⟨k', hi', he⟩ := State.fieldFound?_setVm hvm h1
  exact ⟨cf, k', fi, f, cell, hi', h2, by rw [he]; exact h3, by rw [he]; exact h4, h5⟩
theorem am_Sa.kept {o n d : String} {v : Value} {s : State} {H H1 : Heap} {a : Nat} (h : am_Sa o n d v s H a) (e : H1[a]? = H[a]?) : am_Sa o n d v s H1 a := by
  obtain ⟨cf, kf, fi, f, cell, h1, h2, h3, h4, h5, h6⟩ := h
  exact ⟨cf, kf, fi, f, cell, h1, h2, h3, h4, by rw [e]; exact h5, h6⟩
/-- the field o.n : d of the object a holds v -/
def am_Oa (o n d : String) (v : Value) (s : State) (H : Heap) (a : Nat) : Prop := ∃ (cf : ClassId) (k : Class) (i : Nat) (f : Field) (cell : Cell), s.fieldFound? o n d = some (cf, k, i, f) ∧ f.isStatic = false ∧ H[a]? = some cell ∧ cell.vm ≠ .unknown ∧ cell.slots[f.slot]? = some v
theorem am_Oa.moved {o n d : String} {v : Value} {s U : State} {H : Heap} {a : Nat} (hvm : s.vm.Alike U.vm) (h : am_Oa o n d v s H a) : am_Oa o n d v U H a := by
  obtain ⟨cf, k, i, f, cell, h1, h2⟩ := h
  obtain ⟨k', hi', -⟩ := State.fieldFound?_setVm hvm h1
  exact ⟨cf, k', i, f, cell, hi', h2⟩
theorem am_Oa.kept {o n d : String} {v : Value} {s : State} {H H1 : Heap} {a : Nat} (h : am_Oa o n d v s H a) (e : H1[a]? = H[a]?) : am_Oa o n d v s H1 a := by
  obtain ⟨cf, k, i, f, cell, h1, h2, h3, h4⟩ := h
  exact ⟨cf, k, i, f, cell, h1, h2, by rw [e]; exact h3, h4⟩
/-- what is only read, besides: 112 a String, by its bytes; 113 an array of references of others; 120 the statics DigitOnes and DigitTens; 122 the static VARIABLES -/
def am_CF (s : State) (H : Heap) (a : Nat) (x : AC) : Prop :=
  (∃ cell : Cell, H[a]? = some cell) ∧
  (x.1 = 112 → (∃ cell : Cell, H[a]? = some cell ∧ cell.vm.isStatics = false ∧ s.vm.findClass "java/lang/String" = some cell.cls) ∧ am_Oa "java/lang/String" "coder" "B" (.int (Int32.ofInt 0)) s H a ∧ am_Oa "java/lang/String" "value" "[B" (va_rf (x.2.2.2 0)) s H a) ∧
  (x.1 = 113 → 0 ≤ x.2.1 ∧ x.2.1 < 2147483648 ∧ ∃ cell : Cell, H[a]? = some cell ∧ s.isArrayOf cell (.object "java/lang/String") ∧ cell.vm ≠ .unknown ∧ cell.slots.size = x.2.1.toNat ∧ ∀ j : Nat, j < x.2.1.toNat → cell.slots[j]? = some (va_rf (x.2.2.2 j))) ∧
  (x.1 = 120 → am_Sa "java/lang/Integer" "DigitOnes" "[B" (va_rf (x.2.2.2 0)) s H a ∧ am_Sa "java/lang/Integer" "DigitTens" "[B" (va_rf (x.2.2.2 1)) s H a) ∧
  (x.1 = 122 → am_Sa "CornerClaimsLaw" "VARIABLES" "[Ljava/lang/String;" (va_rf (x.2.2.2 0)) s H a)
theorem am_CF.kept {s : State} {H H1 : Heap} {a : Nat} {x : AC} (h : am_CF s H a x) (e : H1[a]? = H[a]?) : am_CF s H1 a x := by
  obtain ⟨h0, h1, h2, h3, h4⟩ := h
  refine ⟨by rw [e]; exact h0, fun q => ?_, fun q => ?_, fun q => ?_, fun q => ?_⟩
  · obtain ⟨⟨c, k1, k2⟩, k3, k4⟩ := h1 q
    exact ⟨⟨c, by rw [e]; exact k1, k2⟩, k3.kept e, k4.kept e⟩
  · obtain ⟨k1, k2, c, k3, k4⟩ := h2 q
    exact ⟨k1, k2, c, by rw [e]; exact k3, k4⟩
  · exact ⟨(h3 q).1.kept e, (h3 q).2.kept e⟩
  · exact (h4 q).kept e
theorem am_CF.moved {s U : State} {H : Heap} {a : Nat} {x : AC} (hvm : s.vm.Alike U.vm) (h : am_CF s H a x) : am_CF U H a x := by
  obtain ⟨h0, h1, h2, h3, h4⟩ := h
  refine ⟨h0, fun q => ?_, fun q => ?_, fun q => ?_, fun q => ?_⟩
  · obtain ⟨⟨c, k1, k2, k5⟩, k3, k4⟩ := h1 q
    exact ⟨⟨c, k1, k2, by rw [hvm.findClass]; exact k5⟩, k3.moved hvm, k4.moved hvm⟩
  · obtain ⟨k1, k2, c, k3, k4, k5⟩ := h2 q
    exact ⟨k1, k2, c, k3, State.isArrayOf_alike hvm k4, k5⟩
  · exact ⟨(h3 q).1.moved hvm, (h3 q).2.moved hvm⟩
  · exact (h4 q).moved hvm
/-- 0 to 13: an object of vwCl; 100 to 107: an array of ours; 110: an int array of others, to be read only; 111: a byte array of others; from 112 on as am_CF has it -/
def am_CR (b : Nat) (s : State) (H : Heap) (a : Nat) (x : AC) : Prop :=
  if x.1 < 14 then b ≤ a ∧ ∃ (q : vw_C) (cC : ClassId) (iS : Nat → Nat), vwCl[x.1]? = some q ∧ x.2.1 = (q.2.2 : Int) ∧ u_Kn s q.1 q.2.1 q.2.2 cC iS ∧ t_OB a cC q.2.2 iS H (fun j => am_sv (am_fty x.1 j) (x.2.2.1 j) (x.2.2.2 j))
  else if x.1 < 110 then b ≤ a ∧ ∃ cA : ClassId, ArrOfT s cA (am_ety x.1) ∧ va_RA s cA (am_ety x.1) ∧ 0 ≤ x.2.1 ∧ x.2.1 < 2147483648 ∧ H[a]? = some (arrV cA x.2.1.toNat (fun j => am_sv (am_ety x.1) (x.2.2.1 j) (x.2.2.2 j)))
  else if x.1 < 112 then ∃ cell : Cell, H[a]? = some cell ∧ s.isArrayOf cell (if x.1 = 110 then .int else .byte) ∧ cell.vm ≠ .unknown ∧ cell.slots.size = x.2.1.toNat ∧ 0 ≤ x.2.1 ∧ x.2.1 < 2147483648 ∧ ∀ j : Nat, j < x.2.1.toNat → cell.slots[j]? = some (.int (Int32.ofInt (x.2.2.1 j)))
  else am_CF s H a x
def Rep (b : Nat) (s : State) (h : AH) (H : Heap) : Prop := h.2.1 = H.size ∧ ∀ a x, h.1 a = some x → am_CR b s H a x
theorem am_CR.lt {b : Nat} {s : State} {H : Heap} {a : Nat} {x : AC} (h : am_CR b s H a x) : a < H.size := by
  unfold am_CR at h
  split at h
  · obtain ⟨-, q, cC, iS, -, -, -, cell, h1, -⟩ := h
    exact (Array.getElem?_eq_some_iff.mp h1).1
  · split at h
    · obtain ⟨-, cA, -, -, -, -, h1⟩ := h
      exact (Array.getElem?_eq_some_iff.mp h1).1
    · split at h
      · obtain ⟨cell, h1, -⟩ := h
        exact (Array.getElem?_eq_some_iff.mp h1).1
      · obtain ⟨⟨cell, h1⟩, -⟩ := h
        exact (Array.getElem?_eq_some_iff.mp h1).1
theorem am_CR.kept {b : Nat} {s : State} {H H1 : Heap} {a : Nat} {x : AC} (h : am_CR b s H a x) (e : H1[a]? = H[a]?) : am_CR b s H1 a x := by
  unfold am_CR at h ⊢
  split
  · rw [if_pos ‹_›] at h
    obtain ⟨h0, q, cC, iS, h1, h2, h3, h4⟩ := h
    exact ⟨h0, q, cC, iS, h1, h2, h3, h4.kept e⟩
  · rw [if_neg ‹_›] at h
    split
    · rw [if_pos ‹_›] at h
      obtain ⟨h0, cA, h1, h2, h3, h4, h5⟩ := h
      exact ⟨h0, cA, h1, h2, h3, h4, by rw [e]; exact h5⟩
    · rw [if_neg ‹_›] at h
      split
      · rw [if_pos ‹_›] at h
        obtain ⟨cell, h1, h2⟩ := h
        exact ⟨cell, by rw [e]; exact h1, h2⟩
      · rw [if_neg ‹_›] at h
        exact h.kept e
theorem am_CR.moved {b : Nat} {s U : State} {H : Heap} {a : Nat} {x : AC} (hvm : s.vm.Alike U.vm) (h : am_CR b s H a x) : am_CR b U H a x := by
  unfold am_CR at h ⊢
  split
  · rw [if_pos ‹_›] at h
    obtain ⟨h0, q, cC, iS, h1, h2, h3, h4⟩ := h
    exact ⟨h0, q, cC, iS, h1, h2, u_Kn_moved hvm h3, h4⟩
  · rw [if_neg ‹_›] at h
    split
    · rw [if_pos ‹_›] at h
      obtain ⟨h0, cA, h1, h2, h3, h4, h5⟩ := h
      exact ⟨h0, cA, arrOfT_moved hvm h1, h2.moved hvm, h3, h4, h5⟩
    · rw [if_neg ‹_›] at h
      split
      · rw [if_pos ‹_›] at h
        obtain ⟨cell, h1, h2, h3⟩ := h
        exact ⟨cell, h1, State.isArrayOf_alike hvm h2, h3⟩
      · rw [if_neg ‹_›] at h
        exact h.moved hvm
theorem Rep.moved {b : Nat} {s U : State} {h : AH} {H : Heap} (hvm : s.vm.Alike U.vm) (r : Rep b s h H) : Rep b U h H := ⟨r.1, fun a x e => (r.2 a x e).moved hvm⟩
/-- one cell written -/
def am_set (h : AH) (a : Nat) (x : AC) : AH := (fun q => if q = a then some x else h.1 q, h.2.1, h.2.2)
/-- one cell made, of n slots -/
def am_new (h : AH) (x : AC) (n : Nat) : AH := (fun q => if q = h.2.1 then some x else h.1 q, h.2.1 + 1, h.2.2 + n)
theorem am_set_at (h : AH) (a : Nat) (x : AC) : (am_set h a x).1 a = some x := by simp [am_set]
theorem am_set_ne {h : AH} {a q : Nat} (x : AC) (hq : q ≠ a) : (am_set h a x).1 q = h.1 q := by simp [am_set, hq]
theorem am_new_at (h : AH) (x : AC) (n : Nat) : (am_new h x n).1 h.2.1 = some x := by simp [am_new]
theorem am_new_ne {h : AH} {q : Nat} (x : AC) (n : Nat) (hq : q ≠ h.2.1) : (am_new h x n).1 q = h.1 q := by simp [am_new, hq]
theorem Rep.set {b : Nat} {s : State} {h : AH} {H H1 : Heap} (r : Rep b s h H) {a : Nat} {x : AC} (hz : H1.size = H.size) (ho : ∀ q : Nat, q ≠ a → H1[q]? = H[q]?) (hc : am_CR b s H1 a x) : Rep b s (am_set h a x) H1 := by
  refine ⟨r.1.trans hz.symm, fun q y e => ?_⟩
  by_cases hq : q = a
  · subst hq
    rw [am_set_at] at e
    cases e
    exact hc
  · rw [am_set_ne x hq] at e
    exact (r.2 q y e).kept (ho q hq)
theorem Rep.new {b : Nat} {s : State} {h : AH} {H H1 : Heap} (r : Rep b s h H) {x : AC} {n : Nat} (hz : H1.size = H.size + 1) (ho : ∀ q : Nat, q < H.size → H1[q]? = H[q]?) (hc : am_CR b s H1 H.size x) : Rep b s (am_new h x n) H1 := by
  refine ⟨by rw [hz, ← r.1]; rfl, fun q y e => ?_⟩
  by_cases hq : q = h.2.1
  · subst hq
    rw [am_new_at] at e
    cases e
    rw [r.1]
    exact hc
  · rw [am_new_ne x n hq] at e
    have h1 := r.2 q y e
    exact h1.kept (ho q h1.lt)
/-- what the world holds besides: words that survive warming, and cells older than ours -/
def am_nestW : Cond → Bool
  | .fieldLinkNest _ _ _ _ _ _ => true
  | .methodLinkNest _ _ _ _ => true
  | .castable _ _ => true
  | .declares _ => true
  | .privateMethod _ => true
  | _ => false
def am_NW : List Cond := lw_tbl.filter am_nestW
def GW : List Cond := lw_tbl.filter goodWord
theorem am_nw_on {w : Cond} (h : am_nestW w = true) : w.onTables = true := by
  cases w <;> first | rfl | (simp [am_nestW] at h)
theorem va_Nw.warmP {x : MethodName} {s U : State} (hW : s.WarmedH U.vm) (hZ : va_Nw (.privateMethod x) s) : va_Nw (.privateMethod x) U := va_tabs rfl (rfl : (s.setVm U.vm).vm = U.vm) (by rw [Cond.privateMethod_setVm hW.alike]; exact hZ)
theorem am_nw_warm {w : Cond} (h : am_nestW w = true) {s U : State} (hW : s.WarmedH U.vm) (hZ : va_Nw w s) : va_Nw w U := by
  cases w <;> first | exact va_Nw.warmF hW hZ | exact va_Nw.warmM hW hZ | exact va_Nw.warmC hW hZ | exact va_Nw.warmD hW hZ | exact va_Nw.warmP hW hZ | (simp [am_nestW] at h)
