/-- the String constants: class, entry, text -/
def am_STR : List (String × Nat × String) := [("CornerClaims", 68, "the buffer is shorter, or length is negative"), ("CornerClaims$Setup", 117, "field"), ("CornerClaims$Setup", 123, "stone"), ("CornerClaims$Setup", 125, "polygon"), ("CornerClaims$Setup", 127, "score"), ("CornerClaims$Setup", 129, "area"), ("CornerClaims$Setup", 131, "stones"), ("CornerClaims$Setup", 133, "corners"), ("CornerClaims$Setup", 135, "dents"), ("CornerClaims$Setup", 137, "inner"), ("CornerClaims", 115, "there is no such stone"), ("CornerClaims", 131, "nothing else is told of a stone"), ("CornerClaims", 250, "there is no such polygon"), ("CornerClaims", 255, "the point is not one of the field"), ("CornerClaims", 257, "the polygon is open"), ("CornerClaims", 202, "there is no such player"), ("CornerClaims", 209, "there are as many polygons as there may be"), ("CornerClaims", 253, "the polygon has no such corner or side"), ("CornerClaimsLaw", 144, "field"), ("CornerClaimsLaw", 124, " "), ("CornerClaimsLaw", 150, ";"), ("CornerClaimsLaw", 162, "stone"), ("CornerClaimsLaw", 194, "polygon"), ("CornerClaimsLaw", 198, ""), ("CornerClaimsLaw", 200, " ;"), ("CornerClaimsLaw", 212, "score "), ("CornerClaimsLaw$Node", 37, ""), ("java/util/Arrays", 337, " > "), ("CornerClaimsLaw$Node", 60, "+"), ("CornerClaimsLaw$Node", 62, " - "), ("CornerClaimsLaw$Node", 64, "* "), ("CornerClaimsLaw$Node", 66, "/"), ("CornerClaimsLaw$Node", 68, "("), ("CornerClaimsLaw$Node", 70, ")"), ("CornerClaims", 111, "there is no such count"), ("CornerClaims", 152, "nothing else is told of a polygon"), ("CornerClaimsLaw", 297, "area"), ("CornerClaimsLaw", 298, "stones"), ("CornerClaimsLaw", 299, "corners"), ("CornerClaimsLaw", 300, "dents"), ("CornerClaimsLaw", 301, "inner")]

def am_Fr (b : Nat) : Nat → Prop := fun q => b ≤ q
abbrev am_w : Type := Nat × (Nat → Nat)
def am_txt (i : Nat) : String × Nat × String := am_STR.getD i ("", 0, "")
/-- the bytes of a text -/
def am_byt (i : Nat) (j : Nat) : Int := (((am_txt i).2.2.toList.getD j ' ').toNat : Int)
def am_len (i : Nat) : Nat := (am_txt i).2.2.toList.length
/-- classes that the law's handlers don't catch: thrown, named by the handler -/
def am_NC : List (String × String) := [("java/lang/IllegalArgumentException", "java/util/NoSuchElementException"), ("java/lang/IllegalArgumentException", "java/lang/IndexOutOfBoundsException"), ("java/util/NoSuchElementException", "java/lang/IndexOutOfBoundsException"), ("java/lang/IllegalStateException", "java/lang/IndexOutOfBoundsException"), ("java/lang/IllegalStateException", "java/lang/IllegalArgumentException")]
def KS (w : am_w) (s : State) : Prop := (∀ x ∈ am_NW, va_Nw x s) ∧ (∀ i, i < am_STR.length → vk_R (am_txt i).1 (am_txt i).2.1 (am_txt i).2.2 (w.2 i) s) ∧ (∀ q ∈ am_NC, va_Nc q.1 q.2 s) ∧ va_AO "CornerClaims$Board" s ∧ va_AO "CornerClaims$Shape" s ∧ (Cond.arrayOver (.array .int)).before #[] s = true ∧ va_AO "CornerClaimsLaw$Shape" s ∧ va_AO "CornerClaimsLaw$Field" s
/-- what the formatter of wrong indices is: null, or an object -/
def am_fmt (w : am_w) : Option Nat := if w.2 301 = 0 then none else some (w.2 300)
def KH (w : am_w) (s : State) (H : Heap) : Prop := w.1 ≤ H.size ∧ vx_Zq Bundle.tN "UNASSIGNED_STACK" Bundle.steD (am_Fr w.1) s H ∧ vx_Zq Bundle.tN "SUPPRESSED_SENTINEL" Bundle.listD (am_Fr w.1) s H ∧
  va_Z "CornerClaims" "PLAIN_SCORE" "[I" (.ref (w.2 100)) (am_Fr w.1) s H ∧ (va_Z "java/lang/String" "COMPACT_STRINGS" "Z" (.int 1) (am_Fr w.1) s H ∧ va_Z "jdk/internal/util/Preconditions" "SIOOBE_FORMATTER" "Ljava/util/function/BiFunction;" (va_rf (am_fmt w)) (am_Fr w.1) s H) ∧
  ∀ i, i < am_STR.length → va_O "java/lang/String" (w.2 i) (am_Fr w.1) s H ∧ va_OF "java/lang/String" "coder" "B" (.int 0) (w.2 i) (am_Fr w.1) s H ∧ va_OF "java/lang/String" "value" "[B" (.ref (w.2 (200 + i))) (w.2 i) (am_Fr w.1) s H ∧ va_T .byte (w.2 (200 + i)) (am_len i) (fun j => .int (Int32.ofInt (am_byt i j))) (am_Fr w.1) s H
theorem KS.warm {w : am_w} {s U : State} (hW : s.WarmedH U.vm) (h : KS w s) : KS w U :=
  ⟨fun x hx => am_nw_warm (List.mem_filter.mp hx).2 hW (h.1 x hx), fun i hi => (h.2.1 i hi).warm hW, fun q hq => (h.2.2.1 q hq).moved hW.alike, h.2.2.2.1.moved hW.alike, h.2.2.2.2.1.moved hW.alike, arrayOver_alikeB hW.alike h.2.2.2.2.2.1, h.2.2.2.2.2.2.1.moved hW.alike, h.2.2.2.2.2.2.2.moved hW.alike⟩
theorem KH.moved {w : am_w} {s U : State} {H : Heap} (hvm : s.vm.Alike U.vm) (h : KH w s H) : KH w U H := by
  obtain ⟨h0, h1, h2, h3, h4, h5⟩ := h
  refine ⟨h0, h1.moved hvm, h2.moved hvm, h3.moved hvm, ⟨h4.1.moved hvm, h4.2.moved hvm⟩, fun i hi => ?_⟩
  obtain ⟨g1, g2, g3, g4⟩ := h5 i hi
  exact ⟨g1.moved hvm, g2.moved hvm, g3.moved hvm, va_T.moved hvm g4⟩
theorem KH.kept {w : am_w} {s : State} {H H1 : Heap} (h : KH w s H) (hz : H.size ≤ H1.size) (ho : ∀ q : Nat, q < H.size → ¬ am_Fr w.1 q → H1[q]? = H[q]?) : KH w s H1 := by
  obtain ⟨h0, h1, h2, h3, h4, h5⟩ := h
  refine ⟨Nat.le_trans h0 hz, h1.kept ho, h2.kept ho, h3.kept ho, ⟨h4.1.kept ho, h4.2.kept ho⟩, fun i hi => ?_⟩
  obtain ⟨g1, g2, g3, g4⟩ := h5 i hi
  exact ⟨g1.kept ho, g2.kept ho, g3.kept ho, g4.kept ho⟩
theorem KH.one {w : am_w} {s : State} {H H1 : Heap} {a : Nat} (h : KH w s H) (ha : w.1 ≤ a) (hz : H1.size = H.size) (ho : ∀ q : Nat, q ≠ a → H1[q]? = H[q]?) : KH w s H1 := h.kept (Nat.le_of_eq hz.symm) (fun q _ hq => ho q (fun e => hq (by subst e; exact ha)))
/-- a method: its name, its bytes, its locals, what it returns, its handlers -/
abbrev YR : Type := MethodName × ByteArray × Nat × Option FieldType × List (Nat × Nat × Nat × Nat)
def am_cw (y : YR) : Cond := if y.2.2.2.2 = [] then .code y.1 y.2.1 y.2.2.1 y.2.2.2.1 else .codeWith y.1 y.2.1 y.2.2.1 y.2.2.2.1 y.2.2.2.2
def am_ws (y : YR) : List Cond := am_cw y :: GW
/-- how a call ends: with an answer, or with an exception of this number -/
abbrev RV : Type := Option AV ⊕ Nat
def am_exc (k : Nat) : String := match k with
  | 0 => "java/lang/IllegalArgumentException"
  | 1 => "java/util/NoSuchElementException"
  | 2 => "java/lang/IndexOutOfBoundsException"
  | _ => "java/lang/IllegalStateException"
def am_retI (ret : Option FieldType) : Instr := match ret with
  | none => .return_
  | some .int => .ireturn
  | some .boolean => .ireturn
  | some .long => .lreturn
  | some .byte => .ireturn
  | some .char => .ireturn
  | some _ => .areturn
def am_okr (ret : Option FieldType) (v : Option AV) : Prop := match ret with
  | none => v = none
  | some .int => ∃ z, v = some (vi z)
  | some .boolean => ∃ z, v = some (vi z) ∧ (z = 0 ∨ z = 1)
  | some .long => ∃ z, v = some (vl z)
  | some (.object _) => ∃ a, v = some (vr a)
  | some (.array _) => ∃ a, v = some (vr a)
  | some .byte => ∃ z, v = some (vi z) ∧ narrow .byte (.int (Int32.ofInt z)) = .int (Int32.ofInt z)
  | some .char => ∃ z, v = some (vi z) ∧ narrow .char (.int (Int32.ofInt z)) = .int (Int32.ofInt z)
  | some _ => False
def am_Ctx (y : YR) (d : Nat) (p : Program) (l : Launch) (R : Room) (s : State) (m : MethodId) (args : Array Value) (meth : Method) (c : Code) : Prop :=
  p.tables.exec = Jvm.exec ∧ c.code = y.2.1 ∧ c.maxLocals = y.2.2.1 ∧ s.vm.findClass y.1.cls = some m.cls ∧ (∀ w ∈ GW, w.before args s = true) ∧ meth.sig.returnType = y.2.2.2.1 ∧ meth.locks = false ∧ l.flags = flags0 ∧ d ≤ R.frames ∧ 48 * d ≤ R.locals ∧ c.exceptionTable.toList = tableOf y.2.2.2.2 ∧ meth.name = y.1.name
def am_lv (lv : List (Nat × AV)) : List (Nat × Value) := lv.map fun q => (q.1, cv q.2)
def am_st (st : List AV) : List Value := st.map cv
/-- what the end of the method owes, by its outcome -/
def am_End (w : am_w) (y : YR) (p : Program) (l : Launch) (e : Env) (R : Room) (s : State) (m : MethodId) (args : Array Value) (below : List Frame) (meth : Method) (c : Code) (cells slots : Nat) (Q : State → Prop) (r : RV) (h' : AH) : Prop :=
  (∀ v : Option AV, r = .inl v → ∀ (H' : Heap) (locs : List Loc) (pc : Nat) (ls : Array Slot), KH w s H' → Rep w.1 s h' H' → (∀ q ∈ locs, am_Fr w.1 q.base) → decode y.2.1 pc = .ok (am_retI y.2.2.2.1, 1) → am_okr y.2.2.2.1 v →
    W p l e R s m args below meth c H' locs cells slots Q (F0 m pc ls (v.toList.map cv))) ∧
  ∀ k : Nat, r = .inr k → ∀ (H' : Heap) (locs : List Loc) (pc : Nat) (ls : Array Slot) (rest : List Value) (q : Addr) (ce : Cell), KH w s H' → Rep w.1 s h' H' → (∀ q ∈ locs, am_Fr w.1 q.base) → (∀ x ∈ tableOf y.2.2.2.2, covers x pc = false) →
    H'[q]? = some ce → ce.vm = .none → s.vm.findClass (am_exc k) = some ce.cls → vx_W p l e R s m args below meth c H' locs cells slots Q (F0 m pc ls rest) q
/-- from this place, with these locals and this stack, over this heap, the method ends so, over that heap; d calls deep at most -/
def AW (w : am_w) (y : YR) (d pc : Nat) (lv : List (Nat × AV)) (st : List AV) (h : AH) (r : RV) (h' : AH) : Prop :=
  h.2.1 ≤ h'.2.1 ∧ h.2.2 ≤ h'.2.2 ∧ ∀ (p : Program) (l : Launch) (e : Env) (R : Room) (s : State) (m : MethodId) (args : Array Value) (below : List Frame) (meth : Method) (c : Code) (H : Heap) (locs : List Loc) (cells slots : Nat) (Q : State → Prop) (ls : Array Slot),
    am_Ctx y d p l R s m args meth c → KS w s → KH w s H → Rep w.1 s h H → (∀ q ∈ locs, am_Fr w.1 q.base) → lv_has ls y.2.2.1 (am_lv lv) → cells + (h'.2.1 - h.2.1) ≤ R.cells → slots + (h'.2.2 - h.2.2) ≤ R.slots →
    am_End w y p l e R s m args below meth c (cells + (h'.2.1 - h.2.1)) (slots + (h'.2.2 - h.2.2)) Q r h' → W p l e R s m args below meth c H locs cells slots Q (F0 m pc ls (am_st st))
def am_Qc (w : am_w) (r : RV) (h' : AH) : Array Value → State → Outcome → State → Prop := fun _ _ o t => ∃ v : Option AV, r = .inl v ∧ o = .returned (v.map cv) ∧ KH w t t.heap ∧ Rep w.1 t h' t.heap
def am_XC (w : am_w) (r : RV) (h' : AH) : String → State → State → Prop := fun E _ t => ∃ k : Nat, r = .inr k ∧ E = am_exc k ∧ KH w t t.heap ∧ Rep w.1 t h' t.heap
def am_Pc (w : am_w) (av : List AV) (h : AH) : Array Value → State → Prop := fun a U => a = (am_st av).toArray ∧ KS w U ∧ KH w U U.heap ∧ Rep w.1 U h U.heap
def am_rm (d : Nat) (h h' : AH) : Room := { frames := d, cells := h'.2.1 - h.2.1, slots := h'.2.2 - h.2.2, locals := 48 * d }
/-- the method, called with these over this heap, ends so -/
def AM (w : am_w) (y : YR) (d : Nat) (av : List AV) (h : AH) (r : RV) (h' : AH) : Prop :=
  h.2.1 ≤ h'.2.1 ∧ h.2.2 ≤ h'.2.2 ∧ (∀ v, r = .inl v → am_okr y.2.2.2.1 v) ∧ ∀ l : Launch, l.flags = flags0 → vx_Met l y.1 (am_ws y) (am_rm d h h') (am_Pc w av h) (am_Qc w r h') (am_XC w r h') (h'.2.1 - h.2.1) (h'.2.2 - h.2.2) (am_Fr w.1)
