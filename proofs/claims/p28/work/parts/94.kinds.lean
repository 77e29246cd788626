/-! The start: what lies there, of what kind. -/
/-- 1 an int array, 2 a byte array, 3 an array of Strings, 4 a String, 5 the statics of Integer, 6 those of the law -/
def ws_ty (s : State) (a k : Nat) : Prop := ∃ cell : Cell, s.heap[a]? = some cell ∧ ((k = 1 ∧ s.isArrayOf cell .int) ∨ (k = 2 ∧ s.isArrayOf cell .byte) ∨ (k = 3 ∧ s.isArrayOf cell (.object "java/lang/String")) ∨ (k = 4 ∧ cell.vm.isStatics = false ∧ s.vm.findClass "java/lang/String" = some cell.cls) ∨ (k = 5 ∧ cell.vm.isStatics = true ∧ s.vm.findClass "java/lang/Integer" = some cell.cls) ∨ (k = 6 ∧ cell.vm.isStatics = true ∧ s.vm.findClass "CornerClaimsLaw" = some cell.cls))
theorem ws_name {vm : Vm} {n : String} {c : ClassId} {k : Class} (h : vm.findClass n = some c) (hk : vm.classes[c]? = some k) : k.name = n := by
  obtain ⟨hlt, hp, -⟩ := Array.findIdx?_eq_some_iff_getElem.mp h
  rw [Array.getElem?_eq_getElem hlt] at hk
  cases hk
  simp only [Bool.and_eq_true, beq_iff_eq] at hp
  exact hp.1.1.1
theorem ws_aty {s : State} {cell : Cell} {t u : FieldType} (a : s.isArrayOf cell t) (b : s.isArrayOf cell u) : t = u := by
  obtain ⟨-, k, hk, comp, e⟩ := a
  obtain ⟨-, k', hk', comp', e'⟩ := b
  cases hk.symm.trans hk'
  rw [e] at e'
  cases e'
  rfl
theorem ws_ast {s : State} {cell : Cell} {t : FieldType} (a : s.isArrayOf cell t) (b : cell.vm.isStatics = true) : False := by
  cases hv : cell.vm with
  | statics k => exact a.1 k hv
  | _ => simp [hv, VmData.isStatics] at b
theorem ws_tyd {args : Array Value} {s : State} (hS : (Cond.instantiable "java/lang/String" 4).before args s = true) {a k k' : Nat} (h : ws_ty s a k) (h' : ws_ty s a k') : k = k' := by
  obtain ⟨c, hc, h⟩ := h
  obtain ⟨c', hc', h'⟩ := h'
  cases hc.symm.trans hc'
  obtain ⟨cS, kS, hcS, hkS, hkind, -⟩ := Cond.instantiable_spec hS
  have s4 : ∀ t, s.isArrayOf c t → s.vm.findClass "java/lang/String" = some c.cls → False := fun t a e => by
    obtain ⟨-, k, hk, comp, ek⟩ := a
    rw [Option.some.inj (hcS.symm.trans e)] at hkS
    cases hk.symm.trans hkS
    rw [hkind] at ek
    cases ek
  have s5 : s.vm.findClass "java/lang/Integer" = some c.cls → s.vm.findClass "CornerClaimsLaw" = some c.cls → False := fun e f => by
    obtain ⟨kk, hkk⟩ := Vm.classAt_of_findClass e
    exact absurd ((ws_name e hkk).symm.trans (ws_name f hkk)) (by decide)
  rcases h with ⟨rfl, a⟩ | ⟨rfl, a⟩ | ⟨rfl, a⟩ | ⟨rfl, a1, a4⟩ | ⟨rfl, a1, a5⟩ | ⟨rfl, a1, a6⟩ <;> rcases h' with ⟨rfl, b⟩ | ⟨rfl, b⟩ | ⟨rfl, b⟩ | ⟨rfl, b1, b4⟩ | ⟨rfl, b1, b5⟩ | ⟨rfl, b1, b6⟩ <;> first | rfl | exact (s4 _ a b4).elim | exact (s4 _ b a4).elim | exact (ws_ast a b1).elim | exact (ws_ast b a1).elim | exact (s5 a5 b6).elim | exact (s5 b5 a6).elim | (rw [a1] at b1; cases b1; done) | (cases ws_aty a b; done)
theorem ws_stat {args : Array Value} {s : State} {C n d : String} {v : Value} (hl : (Cond.laysStatic C n d).before args s = true) (hini : (Cond.initialized C).before args s = true) (hv : (Term.static C n d).eval args s none [] s = some v) : ∃ (c : ClassId) (k : Class) (a : Nat) (cell : Cell), s.vm.findClass C = some c ∧ s.vm.classes[c]? = some k ∧ k.statics = some a ∧ s.heap[a]? = some cell ∧ cell.vm.isStatics = true ∧ cell.cls = c ∧ am_Sa C n d v s s.heap a := by
  obtain ⟨c, k, i, f, a, cell, hc, hi, hst, ha, hcell, hs, hcls, hlt, hty⟩ := Cond.laysStatic_spec hl
  obtain ⟨hst', a', cell', ha', hcell', -, hslot⟩ := Term.static_spec hi hv
  cases ha.symm.trans ha'
  cases hcell.symm.trans hcell'
  have hk := (State.fieldFound?_spec hi).1
  exact ⟨c, k, a, cell, hc, hk, ha, hcell, hs, hcls, c, k, i, f, cell, hi, hst, Cond.initialized_spec hc hk hini, ha, hcell, hs, hslot⟩
theorem ws_ofu {o n d : String} {v v' : Value} {t : Nat} {A A' : Nat → Prop} {U : State} {H : Heap} (h : va_OF o n d v t A U H) (h' : va_OF o n d v' t A' U H) : v = v' := by
  obtain ⟨cf, k, i, f, cell, h1, h2, h3, h4, h5, -⟩ := h
  obtain ⟨cf', k', i', f', cell', h1', h2', h3', h4', h5', -⟩ := h'
  cases h1.symm.trans h1'
  cases h3.symm.trans h3'
  exact Option.some.inj (h5.symm.trans h5')
theorem ws_oa {o n d : String} {v : Value} {t : Nat} {A : Nat → Prop} {U : State} {H : Heap} (h : va_OF o n d v t A U H) : am_Oa o n d v U H t := by
  obtain ⟨cf, k, i, f, cell, h1, h2, h3, h4, h5, -⟩ := h
  exact ⟨cf, k, i, f, cell, h1, h2, h3, h4, h5⟩
/-- a table of digits -/
theorem ws_dig {s : State} {b : Nat} {n : String} {f : Nat → Nat} (hw : ∀ w ∈ ws_dl n f, w.before #[Value.ref b] s = true) : ∃ (t : Nat) (cell : Cell), (ws_dt n).eval #[Value.ref b] s none [] s = some (.ref t) ∧ s.heap[t]? = some cell ∧ s.isArrayOf cell .byte ∧ cell.vm ≠ .unknown ∧ cell.slots.size = 100 ∧ ∀ j : Nat, j < 100 → cell.slots[j]? = some (.int (Int32.ofInt ((f j : Nat) : Int))) := by
  have w1 := hw _ (List.mem_cons_self)
  have w2 := va_eqt (hw _ (List.mem_cons_of_mem _ List.mem_cons_self))
  have w3 : ∀ j : Nat, j < 100 → (Term.elem (ws_dt n) (.int (Int32.ofNat j))).eval #[Value.ref b] s none [] s = some (.int (Int32.ofInt ((f j : Nat) : Int))) := fun j hj => va_eqt (hw _ (List.mem_cons_of_mem _ (List.mem_cons_of_mem _ (List.mem_map.mpr ⟨j, List.mem_range.mpr hj, rfl⟩))))
  obtain ⟨t, cell, e1, e2, e3, e4⟩ := ws_ln (N := 100) (by decide) w2
  obtain ⟨t', e5, cell', f1, f2, f3, f4, f5, f6, f7⟩ := va_Tof (N := 100) (f := fun j => .int (Int32.ofInt ((f j : Nat) : Int))) (A := fun a => s.heap.size ≤ a) (by decide) w1 w2 w3 (fun a h q => Nat.not_lt.mpr q h)
  cases e1.symm.trans e5
  cases e2.symm.trans f1
  exact ⟨t, cell, e1, e2, f2, e3, e4, f6⟩
/-- the heap at the start -/
noncomputable def ws_i1 (g : Nat → Nat) (q : Nat) : Nat := Classical.epsilon fun i => i < 41 ∧ g i = q
noncomputable def ws_i2 (g : Nat → Nat) (q : Nat) : Nat := Classical.epsilon fun i => i < 41 ∧ g (200 + i) = q
noncomputable def ws_hs (g : Nat → Nat) (q : Nat) : Option AC := gm_ite (∃ i, i < 41 ∧ g i = q) (some (112, 0, am_Z, am_G [some (g (200 + ws_i1 g q))])) (gm_ite (∃ i, i < 41 ∧ g (200 + i) = q) (some (111, (am_len (ws_i2 g q) : Int), fun j => am_byt (ws_i2 g q) j.toNat, am_N)) none)
def ws_V (g : Nat → Nat) (k : Int) : Option Nat := some (g (36 + k.toNat))
def ws_P (j : Int) : Int := if j = 0 then -1 else if j = 1 then -2 else -6
noncomputable def ws_h (g : Nat → Nat) (a5 a6 rV o9 t9 : Nat) (L : Nat) (xs : Nat → Int32) (q : Nat) : Option AC :=
  if q = g 400 then some (110, (L : Int), fun j => (xs j.toNat).toInt, am_N) else if q = g 100 then some (110, 3, ws_P, am_N) else if q = a5 then some (120, 0, am_Z, am_G [some o9, some t9]) else if q = a6 then some (122, 0, am_Z, am_G [some rV]) else if q = rV then some (113, 5, am_Z, ws_V g) else if q = o9 then some (111, 100, fun j => 48 + j % 10, am_N) else if q = t9 then some (111, 100, fun j => 48 + j / 10, am_N) else ws_hs g q
