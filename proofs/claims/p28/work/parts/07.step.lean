/-! Straight-line instructions that touch no heap: run by a function, sound over the machine. -/
theorem am_lv_get {ls : Array Slot} {n : Nat} {lv : List (Nat × AV)} (h : lv_has ls n (am_lv lv)) {i : Nat} {v : AV} (hm : (i, v) ∈ lv) : ls[i]? = some (.val (cv v)) := h.2.2 (i, cv v) (List.mem_map.mpr ⟨(i, v), hm, rfl⟩)
def am_get : List (Nat × AV) → Nat → Option AV
  | [], _ => none
  | (j, v) :: t, i => match Nat.beq j i with
    | true => some v
    | false => am_get t i
theorem am_get_mem : ∀ {lv : List (Nat × AV)} {i : Nat} {v : AV}, am_get lv i = some v → (i, v) ∈ lv
  | [], _, _, h => by cases h
  | (j, u) :: t, i, v, h => by
    unfold am_get at h
    split at h
    · rename_i e
      cases h
      rw [Nat.eq_of_beq_eq_true e]
      exact List.mem_cons_self
    · exact List.mem_cons_of_mem _ (am_get_mem h)
def am_wide : AV → Bool
  | .inr (.inl _) => true
  | _ => false
theorem am_cat (v : AV) : (cv v).category = 2 ↔ am_wide v = true := by
  rcases v with z | z | (_ | a) <;> simp [cv, am_wide, Value.category, va_rf]
def am_ins : List (Nat × AV) → Nat → AV → List (Nat × AV)
  | [], i, v => [(i, v)]
  | (j, u) :: t, i, v => match Nat.blt i j with
    | true => (i, v) :: (j, u) :: t
    | false => (j, u) :: am_ins t i v
theorem am_ins_mem : ∀ {lv : List (Nat × AV)} {i : Nat} {v : AV} {q : Nat × AV}, q ∈ am_ins lv i v → q = (i, v) ∨ q ∈ lv
  | [], i, v, q, h => by
    rcases List.mem_cons.mp h with h | h
    · exact Or.inl h
    · cases h
  | (j, u) :: t, i, v, q, h => by
    unfold am_ins at h
    split at h
    · rcases List.mem_cons.mp h with h | h
      · exact Or.inl h
      · exact Or.inr h
    · rcases List.mem_cons.mp h with h | h
      · exact Or.inr (h ▸ List.mem_cons_self)
      · rcases am_ins_mem h with h | h
        · exact Or.inl h
        · exact Or.inr (List.mem_cons_of_mem _ h)
def am_cl1 (i : Nat) : List (Nat × AV) → List (Nat × AV)
  | [] => []
  | (j, u) :: t => match Nat.beq j i || (Nat.beq (j + 1) i && am_wide u) with
    | true => am_cl1 i t
    | false => (j, u) :: am_cl1 i t
def am_cl2 (i : Nat) : List (Nat × AV) → List (Nat × AV)
  | [] => []
  | (j, u) :: t => match Nat.beq j i || (Nat.beq j (i + 1) || (Nat.beq (j + 1) i && am_wide u)) with
    | true => am_cl2 i t
    | false => (j, u) :: am_cl2 i t
theorem am_cl1_mem {i : Nat} : ∀ {lv : List (Nat × AV)} {q : Nat × AV}, q ∈ am_cl1 i lv → q ∈ lv ∧ q.1 ≠ i ∧ ¬ (q.1 + 1 = i ∧ am_wide q.2 = true)
  | [], q, h => by cases h
  | (j, u) :: t, q, h => by
    unfold am_cl1 at h
    split at h
    · exact ⟨List.mem_cons_of_mem _ (am_cl1_mem h).1, (am_cl1_mem h).2⟩
    · rename_i e
      rcases List.mem_cons.mp h with h | h
      · subst h
        simp only [Bool.or_eq_false_iff, Bool.and_eq_false_iff] at e
        refine ⟨List.mem_cons_self, fun z => ?_, fun z => ?_⟩
        · have := e.1; simp only at z; rw [z] at this; simp at this
        · rcases e.2 with e2 | e2
          · have := z.1; simp only at this; rw [this] at e2; simp at e2
          · rw [z.2] at e2; cases e2
      · exact ⟨List.mem_cons_of_mem _ (am_cl1_mem h).1, (am_cl1_mem h).2⟩
theorem am_cl2_mem {i : Nat} : ∀ {lv : List (Nat × AV)} {q : Nat × AV}, q ∈ am_cl2 i lv → q ∈ lv ∧ q.1 ≠ i ∧ q.1 ≠ i + 1 ∧ ¬ (q.1 + 1 = i ∧ am_wide q.2 = true)
  | [], q, h => by cases h
  | (j, u) :: t, q, h => by
    unfold am_cl2 at h
    split at h
    · exact ⟨List.mem_cons_of_mem _ (am_cl2_mem h).1, (am_cl2_mem h).2⟩
    · rename_i e
      rcases List.mem_cons.mp h with h | h
      · subst h
        simp only [Bool.or_eq_false_iff, Bool.and_eq_false_iff] at e
        refine ⟨List.mem_cons_self, fun z => ?_, fun z => ?_, fun z => ?_⟩
        · have := e.1; simp only at z; rw [z] at this; simp at this
        · have := e.2.1; simp only at z; rw [z] at this; simp at this
        · rcases e.2.2 with e2 | e2
          · have := z.1; simp only at this; rw [this] at e2; simp at e2
          · rw [z.2] at e2; cases e2
      · exact ⟨List.mem_cons_of_mem _ (am_cl2_mem h).1, (am_cl2_mem h).2⟩
def am_st1 (lv : List (Nat × AV)) (i : Nat) (v : AV) : List (Nat × AV) := am_ins (am_cl1 i lv) i v
def am_st2 (lv : List (Nat × AV)) (i : Nat) (v : AV) : List (Nat × AV) := am_ins (am_cl2 i lv) i v
theorem am_fewer {ls : Array Slot} {n : Nat} {l l' : List (Nat × Value)} (h : lv_has ls n l) (hs : ∀ q ∈ l', q ∈ l) : lv_has ls n l' := ⟨h.1, h.2.1, fun q hq => h.2.2 q (hs q hq)⟩
theorem am_has1 {ls : Array Slot} {n : Nat} {lv : List (Nat × AV)} {i : Nat} {v : AV} (h : lv_has ls n ((i, cv v) :: (am_lv lv).filter (fun q => !(q.1 == i) && !(q.1 + 1 == i && q.2.category == 2)))) : lv_has ls n (am_lv (am_st1 lv i v)) := by
  refine am_fewer h fun q hq => ?_
  obtain ⟨x, hx, rfl⟩ := List.mem_map.mp hq
  rcases am_ins_mem hx with rfl | hx
  · exact List.mem_cons_self
  · obtain ⟨h1, h2, h3⟩ := am_cl1_mem hx
    refine List.mem_cons_of_mem _ (List.mem_filter.mpr ⟨List.mem_map.mpr ⟨x, h1, rfl⟩, ?_⟩)
    have h4 : ¬ (x.1 + 1 = i ∧ (cv x.2).category = 2) := fun z => h3 ⟨z.1, (am_cat _).mp z.2⟩
    simp only [Bool.and_eq_true, Bool.not_eq_true', beq_eq_false_iff_ne, ne_eq, Bool.and_eq_false_iff]
    refine ⟨h2, ?_⟩
    by_cases h5 : x.1 + 1 = i
    · exact Or.inr fun z => h4 ⟨h5, z⟩
    · exact Or.inl h5
theorem am_has2 {ls : Array Slot} {n : Nat} {lv : List (Nat × AV)} {i : Nat} {v : AV} (h : lv_has ls n ((i, cv v) :: (am_lv lv).filter (fun q => !(q.1 == i) && (!(q.1 == i + 1) && !(q.1 + 1 == i && q.2.category == 2))))) : lv_has ls n (am_lv (am_st2 lv i v)) := by
  refine am_fewer h fun q hq => ?_
  obtain ⟨x, hx, rfl⟩ := List.mem_map.mp hq
  rcases am_ins_mem hx with rfl | hx
  · exact List.mem_cons_self
  · obtain ⟨h1, h2, h6, h3⟩ := am_cl2_mem hx
    refine List.mem_cons_of_mem _ (List.mem_filter.mpr ⟨List.mem_map.mpr ⟨x, h1, rfl⟩, ?_⟩)
    have h4 : ¬ (x.1 + 1 = i ∧ (cv x.2).category = 2) := fun z => h3 ⟨z.1, (am_cat _).mp z.2⟩
    simp only [Bool.and_eq_true, Bool.not_eq_true', beq_eq_false_iff_ne, ne_eq, Bool.and_eq_false_iff]
    refine ⟨h2, h6, ?_⟩
    by_cases h5 : x.1 + 1 = i
    · exact Or.inr fun z => h4 ⟨h5, z⟩
    · exact Or.inl h5
def am_ilen : Instr → Nat
  | .bipush _ => 2
  | .sipush _ => 3
  | .iload _ => 2
  | .lload _ => 2
  | .aload _ => 2
  | .istore _ => 2
  | .lstore _ => 2
  | .astore _ => 2
  | .iinc _ _ => 3
  | _ => 1
def am_ldI (lv : List (Nat × AV)) (st : List AV) (o : Option AV) : Option (List (Nat × AV) × List AV) := match o with
  | some (.inl z) => some (lv, vi z :: st)
  | _ => none
def am_ldL (lv : List (Nat × AV)) (st : List AV) (o : Option AV) : Option (List (Nat × AV) × List AV) := match o with
  | some (.inr (.inl z)) => some (lv, vl z :: st)
  | _ => none
def am_ldA (lv : List (Nat × AV)) (st : List AV) (o : Option AV) : Option (List (Nat × AV) × List AV) := match o with
  | some (.inr (.inr (some a))) => some (lv, vr a :: st)
  | _ => none
def am_stI (nL : Nat) (lv : List (Nat × AV)) (i : Nat) (st : List AV) : Option (List (Nat × AV) × List AV) := match Nat.blt i nL, st with
  | true, .inl z :: t => some (am_st1 lv i (vi z), t)
  | _, _ => none
def am_stL (nL : Nat) (lv : List (Nat × AV)) (i : Nat) (st : List AV) : Option (List (Nat × AV) × List AV) := match Nat.blt (i + 1) nL, st with
  | true, .inr (.inl z) :: t => some (am_st2 lv i (vl z), t)
  | _, _ => none
def am_stA (nL : Nat) (lv : List (Nat × AV)) (i : Nat) (st : List AV) : Option (List (Nat × AV) × List AV) := match Nat.blt i nL, st with
  | true, .inr (.inr (some a)) :: t => some (am_st1 lv i (vr a), t)
  | _, _ => none
def am_opI (lv : List (Nat × AV)) (f : Int → Int → Int) (st : List AV) : Option (List (Nat × AV) × List AV) := match st with
  | .inl b :: .inl a :: t => some (lv, vi (f a b) :: t)
  | _ => none
def am_opL (lv : List (Nat × AV)) (f : Int → Int → Int) (st : List AV) : Option (List (Nat × AV) × List AV) := match st with
  | .inr (.inl b) :: .inr (.inl a) :: t => some (lv, vl (f a b) :: t)
  | _ => none
def am_neI (lv : List (Nat × AV)) (st : List AV) : Option (List (Nat × AV) × List AV) := match st with
  | .inl a :: t => some (lv, vi (-a) :: t)
  | _ => none
def am_dup (lv : List (Nat × AV)) (st : List AV) : Option (List (Nat × AV) × List AV) := match st with
  | .inl a :: t => some (lv, vi a :: vi a :: t)
  | .inr (.inr (some a)) :: t => some (lv, vr a :: vr a :: t)
  | _ => none
def am_pop (lv : List (Nat × AV)) (st : List AV) : Option (List (Nat × AV) × List AV) := match st with
  | .inl _ :: t => some (lv, t)
  | .inr (.inr (some _)) :: t => some (lv, t)
  | _ => none
def am_dup2 (lv : List (Nat × AV)) (st : List AV) : Option (List (Nat × AV) × List AV) := match st with
  | .inl a :: .inl b :: t => some (lv, vi a :: vi b :: vi a :: vi b :: t)
  | .inl a :: .inr (.inr (some b)) :: t => some (lv, vi a :: vr b :: vi a :: vr b :: t)
  | _ => none
def am_inc (nL : Nat) (lv : List (Nat × AV)) (i : Nat) (n : Int) (st : List AV) : Option (List (Nat × AV) × List AV) := match Nat.blt i nL, am_get lv i with
  | true, some (.inl z) => some (am_st1 lv i (vi (z + n)), st)
  | _, _ => none
def am_step (nL : Nat) (i : Instr) (lv : List (Nat × AV)) (st : List AV) : Option (List (Nat × AV) × List AV) := match i with
  | .iconst n => some (lv, vi n :: st)
  | .bipush n => match decide (-128 ≤ n ∧ n < 128) with
    | true => some (lv, vi n :: st)
    | false => none
  | .sipush n => match decide (-32768 ≤ n ∧ n < 32768) with
    | true => some (lv, vi n :: st)
    | false => none
  | .lconst n => some (lv, vl ((n : Nat) : Int) :: st)
  | .iload k => am_ldI lv st (am_get lv k)
  | .iload_n k => am_ldI lv st (am_get lv k.val)
  | .lload k => am_ldL lv st (am_get lv k)
  | .lload_n k => am_ldL lv st (am_get lv k.val)
  | .aload k => am_ldA lv st (am_get lv k)
  | .aload_n k => am_ldA lv st (am_get lv k.val)
  | .istore k => am_stI nL lv k st
  | .istore_n k => am_stI nL lv k.val st
  | .lstore k => am_stL nL lv k st
  | .lstore_n k => am_stL nL lv k.val st
  | .astore k => am_stA nL lv k st
  | .astore_n k => am_stA nL lv k.val st
  | .iinc k n => am_inc nL lv k n st
  | .iadd => am_opI lv (fun a b => a + b) st
  | .isub => am_opI lv (fun a b => a - b) st
  | .imul => am_opI lv (fun a b => a * b) st
  | .ineg => am_neI lv st
  | .ladd => am_opL lv (fun a b => a + b) st
  | .lsub => am_opL lv (fun a b => a - b) st
  | .lmul => am_opL lv (fun a b => a * b) st
  | .dup => am_dup lv st
  | .pop => am_pop lv st
  | .dup2 => am_dup2 lv st
  | _ => none
def am_run (nL : Nat) : List Instr → List (Nat × AV) → List AV → Option (List (Nat × AV) × List AV)
  | [], lv, st => some (lv, st)
  | i :: t, lv, st => match am_step nL i lv st with
    | some (lv', st') => am_run nL t lv' st'
    | none => none
def am_dec (b : ByteArray) (pc : Nat) : List Instr → Nat → Bool
  | [], z => Nat.beq pc z
  | i :: t, z => decide (decode b pc = .ok (i, am_ilen i)) && am_dec b (pc + am_ilen i) t z

/-- a step that touches no heap: whatever holds behind it holds before it -/
def AS (w : am_w) (y : YR) (d pc : Nat) (lv : List (Nat × AV)) (st : List AV) (h : AH) (pc2 : Nat) (lv2 : List (Nat × AV)) (st2 : List AV) (h2 : AH) : Prop :=
  ∀ (r : RV) (h' : AH), AW w y d pc2 lv2 st2 h2 r h' → AW w y d pc lv st h r h'
def AQ (w : am_w) (y : YR) (d pc : Nat) (lv : List (Nat × AV)) (st : List AV) (h : AH) (Q : RV → AH → Prop) : Prop := ∃ (r : RV) (h' : AH), AW w y d pc lv st h r h' ∧ Q r h'
def AE (w : am_w) (y : YR) (d : Nat) (av : List AV) (h : AH) (Q : RV → AH → Prop) : Prop := ∃ (r : RV) (h' : AH), AM w y d av h r h' ∧ Q r h'
theorem AQ.of {w : am_w} {y : YR} {d pc pc2 : Nat} {lv lv2 : List (Nat × AV)} {st st2 : List AV} {h h2 : AH} {Q : RV → AH → Prop} (hs : AS w y d pc lv st h pc2 lv2 st2 h2) (k : AQ w y d pc2 lv2 st2 h2 Q) : AQ w y d pc lv st h Q := by
  obtain ⟨r, h', k1, k2⟩ := k
  exact ⟨r, h', hs r h' k1, k2⟩
theorem AQ.mono {w : am_w} {y : YR} {d pc : Nat} {lv : List (Nat × AV)} {st : List AV} {h : AH} {Q Q2 : RV → AH → Prop} (k : AQ w y d pc lv st h Q) (hq : ∀ r h', Q r h' → Q2 r h') : AQ w y d pc lv st h Q2 := by
  obtain ⟨r, h', k1, k2⟩ := k
  exact ⟨r, h', k1, hq r h' k2⟩
theorem AE.mono {w : am_w} {y : YR} {d : Nat} {av : List AV} {h : AH} {Q Q2 : RV → AH → Prop} (k : AE w y d av h Q) (hq : ∀ r h', Q r h' → Q2 r h') : AE w y d av h Q2 := by
  obtain ⟨r, h', k1, k2⟩ := k
  exact ⟨r, h', k1, hq r h' k2⟩
/-- the form in which the machine's rows are lifted: nothing of the heap changes -/
theorem AS.lift {w : am_w} {y : YR} {d pc pc2 : Nat} {lv lv2 : List (Nat × AV)} {st st2 : List AV} {h : AH}
    (row : ∀ (p : Program) (l : Launch) (e : Env) (R : Room) (s : State) (m : MethodId) (args : Array Value) (below : List Frame) (meth : Method) (c : Code) (H : Heap) (locs : List Loc) (cells slots : Nat) (Q : State → Prop) (ls : Array Slot),
      am_Ctx y d p l R s m args meth c → KS w s → KH w s H → Rep w.1 s h H → (∀ q ∈ locs, am_Fr w.1 q.base) → cells ≤ R.cells → slots ≤ R.slots → lv_has ls y.2.2.1 (am_lv lv) →
      (∀ ls2 : Array Slot, lv_has ls2 y.2.2.1 (am_lv lv2) → W p l e R s m args below meth c H locs cells slots Q (F0 m pc2 ls2 (am_st st2))) → W p l e R s m args below meth c H locs cells slots Q (F0 m pc ls (am_st st))) :
    AS w y d pc lv st h pc2 lv2 st2 h := by
  intro r h' k
  obtain ⟨k1, k2, k3⟩ := k
  refine ⟨k1, k2, fun p l e R s m args below meth c H locs cells slots Q ls hC hKS hKH hR hl hv hc hs hE => ?_⟩
  exact row p l e R s m args below meth c H locs cells slots Q ls hC hKS hKH hR hl (by omega) (by omega) hv fun ls2 hv2 => k3 p l e R s m args below meth c H locs cells slots Q ls2 hC hKS hKH hR hl hv2 hc hs hE
theorem am_step_ok {w : am_w} {y : YR} {d pc : Nat} {lv lv2 : List (Nat × AV)} {st st2 : List AV} {h : AH} {i : Instr} (hd : decode y.2.1 pc = .ok (i, am_ilen i)) (hs : am_step y.2.2.1 i lv st = some (lv2, st2)) : AS w y d pc lv st h (pc + am_ilen i) lv2 st2 h := by
  refine AS.lift fun p l e R s m args below meth c H locs cells slots Q ls hC hKS hKH hR hl hcl hsl hv kk => ?_
  have hx := hC.1
  have hb := hC.2.1
  unfold am_step at hs
  split at hs
  · cases hs
    exact lv_iconst hx hb hd rfl (kk ls hv)
  · rename_i n
    split at hs
    · rename_i e
      cases hs
      have e := of_decide_eq_true e
      exact lv_bipush hx hb hd (am_i8 e.1 e.2) (kk ls hv)
    · cases hs
  · rename_i n
    split at hs
    · rename_i e
      cases hs
      have e := of_decide_eq_true e
      exact lv_sipush hx hb hd (am_i16 e.1 e.2) (kk ls hv)
    · cases hs
  · rename_i n
    cases hs
    exact lv_lconst hx hb hd (by rw [Int64.ofInt_eq_ofNat]) (kk ls hv)
  · rename_i k
    unfold am_ldI at hs
    split at hs
    · rename_i e
      cases hs
      exact lv_iload hx hb hd (am_lv_get hv (am_get_mem e)) (kk ls hv)
    · cases hs
  · rename_i k
    unfold am_ldI at hs
    split at hs
    · rename_i e
      cases hs
      exact lv_iload_n hx hb hd rfl (am_lv_get hv (am_get_mem e)) (kk ls hv)
    · cases hs
  · rename_i k
    unfold am_ldL at hs
    split at hs
    · rename_i e
      cases hs
      exact lv_lload hx hb hd (am_lv_get hv (am_get_mem e)) (kk ls hv)
    · cases hs
  · rename_i k
    unfold am_ldL at hs
    split at hs
    · rename_i e
      cases hs
      exact lv_lload_n hx hb hd rfl (am_lv_get hv (am_get_mem e)) (kk ls hv)
    · cases hs
  · rename_i k
    unfold am_ldA at hs
    split at hs
    · rename_i e
      cases hs
      exact lv_aload hx hb hd (am_lv_get hv (am_get_mem e)) (kk ls hv)
    · cases hs
  · rename_i k
    unfold am_ldA at hs
    split at hs
    · rename_i e
      cases hs
      exact lv_aload_n hx hb hd rfl (am_lv_get hv (am_get_mem e)) (kk ls hv)
    · cases hs
  · rename_i k
    unfold am_stI at hs
    split at hs
    · rename_i e
      cases hs
      exact lv_istore hx hb hd hv (Nat.blt_eq.mp e) rfl fun ls2 h2 => kk ls2 (am_has1 (v := vi _) h2)
    · cases hs
  · rename_i k
    unfold am_stI at hs
    split at hs
    · rename_i e
      cases hs
      exact lv_istore_n hx hb hd rfl hv (Nat.blt_eq.mp e) rfl fun ls2 h2 => kk ls2 (am_has1 (v := vi _) h2)
    · cases hs
  · rename_i k
    unfold am_stL at hs
    split at hs
    · rename_i e
      cases hs
      exact lv_lstore hx hb hd hv (Nat.blt_eq.mp e) rfl fun ls2 h2 => kk ls2 (am_has2 (v := vl _) h2)
    · cases hs
  · rename_i k
    unfold am_stL at hs
    split at hs
    · rename_i e
      cases hs
      exact lv_lstore_n hx hb hd rfl hv (Nat.blt_eq.mp e) rfl fun ls2 h2 => kk ls2 (am_has2 (v := vl _) h2)
    · cases hs
  · rename_i k
    unfold am_stA at hs
    split at hs
    · rename_i e
      cases hs
      exact lv_astore hx hb hd hv (Nat.blt_eq.mp e) rfl fun ls2 h2 => kk ls2 (am_has1 (v := vr _) h2)
    · cases hs
  · rename_i k
    unfold am_stA at hs
    split at hs
    · rename_i e
      cases hs
      exact lv_astore_n hx hb hd rfl hv (Nat.blt_eq.mp e) rfl fun ls2 h2 => kk ls2 (am_has1 (v := vr _) h2)
    · cases hs
  · rename_i k n
    unfold am_inc at hs
    split at hs
    · rename_i e1 e2
      cases hs
      obtain ⟨j, hj⟩ := List.getElem?_of_mem (List.mem_map.mpr ⟨_, am_get_mem e2, rfl⟩ : (k, cv (vi _)) ∈ am_lv lv)
      exact lv_iinc hx hb hd hv hj (am_add _ _) (Nat.blt_eq.mp e1) rfl fun ls2 h2 => kk ls2 (am_has1 (v := vi _) h2)
    · cases hs
  · unfold am_opI at hs
    split at hs
    · cases hs
      refine lv_iadd hx hb hd ?_
      rw [am_add]
      exact kk ls hv
    · cases hs
  · unfold am_opI at hs
    split at hs
    · cases hs
      refine lv_isub hx hb hd ?_
      rw [am_sub]
      exact kk ls hv
    · cases hs
  · unfold am_opI at hs
    split at hs
    · cases hs
      refine lv_imul hx hb hd ?_
      rw [am_mul]
      exact kk ls hv
    · cases hs
  · unfold am_neI at hs
    split at hs
    · cases hs
      refine lv_ineg hx hb hd ?_
      rw [am_neg]
      exact kk ls hv
    · cases hs
  · unfold am_opL at hs
    split at hs
    · cases hs
      refine lv_ladd hx hb hd ?_
      rw [am_addL]
      exact kk ls hv
    · cases hs
  · unfold am_opL at hs
    split at hs
    · cases hs
      refine lv_lsub hx hb hd ?_
      rw [am_subL]
      exact kk ls hv
    · cases hs
  · unfold am_opL at hs
    split at hs
    · cases hs
      refine lv_lmul hx hb hd ?_
      rw [am_mulL]
      exact kk ls hv
    · cases hs
  · unfold am_dup at hs
    split at hs
    · cases hs
      exact lv_dup hx hb hd rfl (kk ls hv)
    · cases hs
      exact lv_dup hx hb hd rfl (kk ls hv)
    · cases hs
  · unfold am_pop at hs
    split at hs
    · cases hs
      exact lv_pop hx hb hd rfl (kk ls hv)
    · cases hs
      exact lv_pop hx hb hd rfl (kk ls hv)
    · cases hs
  · unfold am_dup2 at hs
    split at hs
    · cases hs
      exact lv_dup2_11 hx hb hd rfl rfl (kk ls hv)
    · cases hs
      exact lv_dup2_11 hx hb hd rfl rfl (kk ls hv)
    · cases hs
  · cases hs
theorem am_run_ok {w : am_w} {y : YR} {d : Nat} {h : AH} : ∀ {l : List Instr} {pc pc2 : Nat} {lv lv2 : List (Nat × AV)} {st st2 : List AV}, am_dec y.2.1 pc l pc2 = true → am_run y.2.2.1 l lv st = some (lv2, st2) → AS w y d pc lv st h pc2 lv2 st2 h
  | [], pc, pc2, lv, lv2, st, st2, hd, hr => by
    cases hr
    rw [Nat.eq_of_beq_eq_true hd]
    exact fun r h' k => k
  | i :: t, pc, pc2, lv, lv2, st, st2, hd, hr => by
    unfold am_run at hr
    unfold am_dec at hd
    rw [Bool.and_eq_true] at hd
    split at hr
    · rename_i lv1 st1 e
      exact fun r h' k => am_step_ok (of_decide_eq_true hd.1) e r h' (am_run_ok hd.2 hr r h' k)
    · cases hr
/-- fewer locals are told, in any order: by their places -/
def am_pick : List (Nat × AV) → List Nat → List (Nat × AV)
  | _, [] => []
  | lv, k :: ks => match lv[k]? with
    | some q => q :: am_pick lv ks
    | none => am_pick lv ks
theorem am_pick_mem {lv : List (Nat × AV)} : ∀ {ks : List Nat} {q : Nat × AV}, q ∈ am_pick lv ks → q ∈ lv
  | [], q, h => by cases h
  | k :: ks, q, h => by
    unfold am_pick at h
    split at h
    · rename_i x e
      rcases List.mem_cons.mp h with h | h
      · rw [h]; exact List.mem_of_getElem? e
      · exact am_pick_mem h
    · exact am_pick_mem h
theorem AS.sub {w : am_w} {y : YR} {d pc : Nat} {lv lv2 : List (Nat × AV)} {st : List AV} {h : AH} (ks : List Nat) (hp : am_pick lv ks = lv2) : AS w y d pc lv st h pc lv2 st h :=
  AS.lift fun p l e R s m args below meth c H locs cells slots Q ls hC hKS hKH hR hl hcl hsl hv kk => kk ls (am_fewer hv fun q hq => by
    obtain ⟨x, hx, rfl⟩ := List.mem_map.mp hq
    subst hp
    exact List.mem_map.mpr ⟨x, am_pick_mem hx, rfl⟩)
