/-! From a body to a contract; calls. -/
def am_args : Nat → List AV → List (Nat × AV)
  | _, [] => []
  | k, v :: t => (k, v) :: am_args (if am_wide v = true then k + 2 else k + 1) t
theorem am_args_ok : ∀ (av : List AV) (k : Nat), lv_args k (am_st av) = am_lv (am_args k av)
  | [], k => rfl
  | v :: t, k => by
    have ih := am_args_ok t
    by_cases hw : am_wide v = true
    · have e := (am_cat v).mpr hw
      simp only [am_st, am_lv, List.map_cons, am_args, lv_args] at ih ⊢
      simp only [e, hw, if_true, ih]
    · have e : ¬ (cv v).category = 2 := fun z => hw ((am_cat v).mp z)
      have e1 : (cv v).category = 1 := by
        rcases v with z | z | (_ | a)
        · rfl
        · exact absurd rfl hw
        · rfl
        · rfl
      simp only [am_st, am_lv, List.map_cons, am_args, lv_args] at ih ⊢
      simp only [e1, hw, if_false, ih]
      first | done | rfl | simp
/-- a method that the tables know -/
def am_wf (y : YR) : Prop := am_cw y ∈ GW ∧ plainName y.1.cls = true
theorem am_free {b : Nat} {locs : List Loc} (h : ∀ q ∈ locs, am_Fr b q.base) : ∀ q ∈ locs, am_Fr b q.base := h
theorem AM.of {w : am_w} {y : YR} {d : Nat} {av : List AV} {h : AH} {r : RV} {h' : AH} (hy : am_wf y) (hn : (lg_sl (am_st av)).length ≤ y.2.2.1) (hr : ∀ v, r = .inl v → am_okr y.2.2.2.1 v) (k : AW w y d 0 (am_args 0 av) [] h r h') : AM w y d av h r h' := by
  obtain ⟨k1, k2, k3⟩ := k
  refine ⟨k1, k2, hr, fun l hfl => ?_⟩
  have body : ∀ (p : Program) (e : Env) (s : State) (m : MethodId) (args : Array Value) (below : List Frame) (meth : Method) (c : Code) (s₁ : State), BodyLoose p l y.1 (headSpec (am_ws y) (am_rm d h h')) y.2.1 y.2.2.1 y.2.2.2.1 e s m args below meth c s₁ → c.maxLocals = y.2.2.1 → c.exceptionTable.toList = tableOf y.2.2.2.2 → am_Pc w av h args s →
      W p l e (headSpec (am_ws y) (am_rm d h h')).room s m args below meth c s.heap [] 0 0 (vx_MQ below (am_Qc w r h') (am_XC w r h') args s (h'.2.1 - h.2.1) (h'.2.2 - h.2.2) (am_Fr w.1)) (entryFrame m args y.2.2.1) := by
    intro p e s m args below meth c s₁ B hml htab hP
    obtain ⟨rfl, hKS, hKH, hR⟩ := hP
    have hts := atoms_spec (ws := am_ws y) B.pre
    have hown : s.vm.findClass y.1.cls = some m.cls := findClass_of_methodNamed B.named
    have hC : am_Ctx y d p l (am_rm d h h') s m (am_st av).toArray meth c := ⟨B.exec, B.bytes, hml, hown, fun w hw => hts w (List.mem_cons_of_mem _ hw), B.returns, B.notSynchronized, hfl, Nat.le_refl _, Nat.le_refl _, htab, (name_of_methodNamed B.named B.method).1⟩
    have hl := lv_entry (am_st av) (n := y.2.2.1) hn
    rw [am_args_ok] at hl
    rw [lg_entry_eq]
    have e0 : ∀ x : Nat, 0 + x = x := fun x => Nat.zero_add x
    refine k3 p l e (am_rm d h h') s m (am_st av).toArray below meth c s.heap [] 0 0 _ _ hC hKS hKH hR (fun q hq => by cases hq) hl (by rw [e0]; exact Nat.le_refl _) (by rw [e0]; exact Nat.le_refl _) ⟨?_, ?_⟩
    · intro v hv H' locs pc ls hKH' hR' hl' hdr hok
      rw [e0, e0]
      have hq : ∀ t : State, t.heap = H' → s.WarmedH t.vm → am_Qc w r h' (am_st av).toArray s (.returned (v.map cv)) t := fun t ht hW => ⟨v, hv, rfl, by rw [ht]; exact hKH'.moved hW.alike, by rw [ht]; exact hR'.moved hW.alike⟩
      refine vx_ret ?_
      have hrt := hC.2.2.2.2.2.1
      have hlk := hC.2.2.2.2.2.2.1
      generalize y.2.2.2.1 = ret at hdr hok hrt
      match ret, hdr, hok, hrt with
      | none, hdr, hok, hrt => cases hok; exact W.vret hC.1 hC.2.1 hrt hq hl' hdr hlk
      | some .int, hdr, hok, hrt => obtain ⟨z, rfl⟩ := hok; exact W.iret hC.1 hC.2.1 hrt hq hl' hdr hlk
      | some .boolean, hdr, hok, hrt =>
        obtain ⟨z, rfl, hz⟩ := hok
        exact W.zret hC.1 hC.2.1 hrt (by rcases hz with rfl | rfl <;> decide) hq hl' hdr hlk
      | some .long, hdr, hok, hrt => obtain ⟨z, rfl⟩ := hok; exact W.lret hC.1 hC.2.1 hrt hq hl' hdr hlk
      | some (.object C), hdr, hok, hrt => obtain ⟨a, rfl⟩ := hok; exact W.aret hC.1 hC.2.1 hrt (Or.inl ⟨_, rfl⟩) (Or.inr ⟨a, rfl⟩) hq hl' hdr hlk
      | some (.array C), hdr, hok, hrt => obtain ⟨a, rfl⟩ := hok; exact W.aret hC.1 hC.2.1 hrt (Or.inr ⟨_, rfl⟩) (Or.inr ⟨a, rfl⟩) hq hl' hdr hlk
      | some .byte, hdr, hok, hrt => obtain ⟨z, rfl, hz⟩ := hok; exact W.zret hC.1 hC.2.1 hrt hz hq hl' hdr hlk
      | some .short, hdr, hok, hrt => exact hok.elim
      | some .char, hdr, hok, hrt => obtain ⟨z, rfl, hz⟩ := hok; exact W.zret hC.1 hC.2.1 hrt hz hq hl' hdr hlk
      | some .float, hdr, hok, hrt => exact hok.elim
      | some .double, hdr, hok, hrt => exact hok.elim
    · intro k hk H' locs pc ls rest q ce hKH' hR' hl' hcov hq hv hcl
      rw [e0, e0]
      exact vx_out (fun x hx => hcov x (by rw [← htab]; exact hx)) hC.2.2.2.2.2.2.1 hq hv hcl (fun t ht hW => ⟨k, hk, rfl, by rw [ht]; exact hKH'.moved hW, by rw [ht]; exact hR'.moved hW⟩) hl' (Nat.le_refl _) (Nat.le_refl _)
  by_cases hh : y.2.2.2.2 = []
  · exact vx_ofW (cc := y.2.1) (maxL := y.2.2.1) (ret := y.2.2.2.1) (ws' := GW) hy.2 (by unfold am_ws am_cw; rw [if_pos hh]) fun p e s m args below meth c s₁ B hml ht hP => body p e s m args below meth c s₁ B hml (by
      rw [hh]
      exact List.eq_nil_iff_forall_not_mem.mpr fun x hx => (ht x hx).elim) hP
  · exact vx_ofWH (cc := y.2.1) (maxL := y.2.2.1) (ret := y.2.2.2.1) (ws' := GW) hy.2 (by unfold am_ws am_cw; rw [if_neg hh]) fun p e s m args below meth c s₁ B hml hP => body p e s m args below meth c s₁ B hml (by
      have h1 := atoms_spec (ws := am_ws y) B.pre (am_cw y) List.mem_cons_self
      unfold am_cw at h1
      rw [if_neg hh] at h1
      exact vx_table (x := y.1) B h1) hP
theorem AE.of {w : am_w} {y : YR} {d : Nat} {av : List AV} {h : AH} {Q : RV → AH → Prop} (hy : am_wf y) (hn : (lg_sl (am_st av)).length ≤ y.2.2.1) (hr : ∀ v h', Q (.inl v) h' → am_okr y.2.2.2.1 v) (k : AQ w y d 0 (am_args 0 av) [] h Q) : AE w y d av h Q := by
  obtain ⟨r, h', k1, k2⟩ := k
  exact ⟨r, h', AM.of hy hn (fun v e => hr v h' (e ▸ k2)) k1, k2⟩
/-- the answer is given -/
theorem AQ.ret {w : am_w} {y : YR} {d pc : Nat} {lv : List (Nat × AV)} {h : AH} {Q : RV → AH → Prop} {v : Option AV} (hd : decode y.2.1 pc = .ok (am_retI y.2.2.2.1, 1)) (hok : am_okr y.2.2.2.1 v) (hq : Q (.inl v) h) : AQ w y d pc lv v.toList h Q :=
  ⟨.inl v, h, ⟨Nat.le_refl _, Nat.le_refl _, fun p l e R s m args below meth c H locs cells slots Q ls hC hKS hKH hR hl hv hc hs hE => by
    have := hE.1 v rfl H locs pc ls hKH hR hl hd hok
    rw [Nat.sub_self, Nat.sub_self] at this
    exact this⟩, hq⟩
/-- an exception of number k is thrown at this place -/
def AX (w : am_w) (y : YR) (d pc : Nat) (lv : List (Nat × AV)) (h : AH) (k : Nat) (r : RV) (h' : AH) : Prop :=
  h.2.1 ≤ h'.2.1 ∧ h.2.2 ≤ h'.2.2 ∧ ∀ (p : Program) (l : Launch) (e : Env) (R : Room) (s : State) (m : MethodId) (args : Array Value) (below : List Frame) (meth : Method) (c : Code) (H : Heap) (locs : List Loc) (cells slots : Nat) (Q : State → Prop) (ls : Array Slot) (rest : List Value) (q : Addr) (ce : Cell),
    am_Ctx y d p l R s m args meth c → KS w s → KH w s H → Rep w.1 s h H → (∀ q ∈ locs, am_Fr w.1 q.base) → lv_has ls y.2.2.1 (am_lv lv) → cells + (h'.2.1 - h.2.1) ≤ R.cells → slots + (h'.2.2 - h.2.2) ≤ R.slots →
    am_End w y p l e R s m args below meth c (cells + (h'.2.1 - h.2.1)) (slots + (h'.2.2 - h.2.2)) Q r h' → H[q]? = some ce → ce.vm = .none → s.vm.findClass (am_exc k) = some ce.cls → vx_W p l e R s m args below meth c H locs cells slots Q (F0 m pc ls rest) q
theorem AX.out {w : am_w} {y : YR} {d pc : Nat} {lv : List (Nat × AV)} {h : AH} {k : Nat} (hc : ∀ x ∈ tableOf y.2.2.2.2, covers x pc = false) : AX w y d pc lv h k (.inr k) h :=
  ⟨Nat.le_refl _, Nat.le_refl _, fun p l e R s m args below meth c H locs cells slots Q ls rest q ce hC hKS hKH hR hl hv hcl hsl hE hq hvm hcls => by
    have := hE.2 k rfl H locs pc ls rest q ce hKH hR hl hc hq hvm hcls
    rw [Nat.sub_self, Nat.sub_self] at this
    exact this⟩
/-- how it goes on behind a call that ends so -/
def am_next (w : am_w) (y : YR) (d pc : Nat) (lv : List (Nat × AV)) (st : List AV) (r1 : RV) (h1 : AH) (r : RV) (h' : AH) : Prop := match r1 with
  | .inl v => AW w y d (pc + 3) lv (v.toList ++ st) h1 r h'
  | .inr k => AX w y d pc lv h1 k r h'
theorem am_next_le {w : am_w} {y : YR} {d pc : Nat} {lv : List (Nat × AV)} {st : List AV} {r1 : RV} {h1 : AH} {r : RV} {h' : AH} (h : am_next w y d pc lv st r1 h1 r h') : h1.2.1 ≤ h'.2.1 ∧ h1.2.2 ≤ h'.2.2 := by
  rcases r1 with v | k
  · exact ⟨h.1, h.2.1⟩
  · exact ⟨h.1, h.2.1⟩
theorem am_lvst (v : Option AV) (st : List AV) : (v.map cv).toList ++ am_st st = am_st (v.toList ++ st) := by
  cases v <;> simp [am_st]
theorem am_after {w : am_w} {y : YR} {d pc : Nat} {lv : List (Nat × AV)} {st : List AV} {h h1 h' : AH} {r1 r : RV} {p : Program} {l : Launch} {e : Env} {R : Room} {s : State} {m : MethodId} {args : Array Value} {below : List Frame} {meth : Method} {c : Code} {H : Heap} {locs : List Loc} {cells slots : Nat} {Q : State → Prop} {ls : Array Slot} {st0 : List Value} {a : Array Value}
    (hle1 : h.2.1 ≤ h1.2.1) (hle2 : h.2.2 ≤ h1.2.2) (kk : am_next w y d pc lv st r1 h1 r h') (hC : am_Ctx y d p l R s m args meth c) (hKS : KS w s) (hl : ∀ q ∈ locs, am_Fr w.1 q.base) (hv : lv_has ls y.2.2.1 (am_lv lv)) (hcl : cells + (h'.2.1 - h.2.1) ≤ R.cells) (hsl : slots + (h'.2.2 - h.2.2) ≤ R.slots)
    (hE : am_End w y p l e R s m args below meth c (cells + (h'.2.1 - h.2.1)) (slots + (h'.2.2 - h.2.2)) Q r h')
    (hr : vx_Run p l e R s m args below meth c H locs cells slots (h1.2.1 - h.2.1) (h1.2.2 - h.2.2) (F0 m pc ls st0) (am_st st) (am_Qc w r1 h1 a) (am_XC w r1 h1) (am_Fr w.1)) : W p l e R s m args below meth c H locs cells slots Q (F0 m pc ls st0) := by
  intro T hT X
  obtain ⟨kl1, kl2⟩ := am_next_le kk
  have e1 : cells + (h1.2.1 - h.2.1) + (h'.2.1 - h1.2.1) = cells + (h'.2.1 - h.2.1) := by omega
  have e2 : slots + (h1.2.2 - h.2.2) + (h'.2.2 - h1.2.2) = slots + (h'.2.2 - h.2.2) := by omega
  have hll : ∀ L : List Loc, (∀ q ∈ L, am_Fr w.1 q.base) → ∀ q ∈ locs ++ L, am_Fr w.1 q.base := fun L hL q hq => by
    rcases List.mem_append.mp hq with hq | hq
    · exact hl q hq
    · exact hL q hq
  rcases hr T hT X with ⟨v, st₀, t, T', L, h0, X', hL, g1, g2, ⟨v1, hv1, ho, hKH1, hR1⟩, stp⟩ | ⟨q, st₀, t, T', L, E, ce, h0, X', hL, g1, g2, ⟨k, hk, hEk, hKH1, hR1⟩, hce, hcv, hcl2, stp⟩
  · cases ho
    subst hv1
    have hal : t.vm.Alike s.vm := by rw [← g2]; exact X'.warmed.alike.symm
    have kw := kk.2.2 p l e R s m args below meth c t.heap (locs ++ L) (cells + (h1.2.1 - h.2.1)) (slots + (h1.2.2 - h.2.2)) Q ls hC hKS (hKH1.moved hal) (hR1.moved hal) (hll L hL) hv (by rw [e1]; exact hcl) (by rw [e2]; exact hsl) (by rw [e1, e2]; exact hE)
    obtain ⟨t9, a1, b1⟩ := kw T' g1 X'
    refine ⟨t9, stp t9 ?_, b1⟩
    rw [am_lvst]
    exact a1
  · subst hk
    subst hEk
    have hal : t.vm.Alike s.vm := by rw [← g2]; exact X'.warmed.alike.symm
    have kw := kk.2.2 p l e R s m args below meth c t.heap (locs ++ L) (cells + (h1.2.1 - h.2.1)) (slots + (h1.2.2 - h.2.2)) Q ls (am_st st) q ce hC hKS (hKH1.moved hal) (hR1.moved hal) (hll L hL) hv (by rw [e1]; exact hcl) (by rw [e2]; exact hsl) (by rw [e1, e2]; exact hE) hce hcv hcl2
    obtain ⟨t9, a1, b1⟩ := kw T' g1 X'
    exact ⟨t9, stp.trans a1, b1⟩
/-- what a call's entry of the pool must be -/
def am_lk (y2 : YR) (n : Nat) : Prop := am_wf y2 ∧ y2.2.2.2.2 = [] ∧ Cond.initialized y2.1.cls ∈ GW ∧ (y2.1.cls ≠ "java/lang/invoke/MethodHandle" ∧ y2.1.cls ≠ "java/lang/invoke/VarHandle") ∧ (parseMethodDescriptor y2.1.desc).map (fun d => d.parameters.length) = some n ∧ y2.2.2.1 ≤ 29
def am_lkV (own : String) (idx : Nat) (y2 : YR) (n : Nat) : Prop := am_lk y2 n ∧ Cond.methodLink own idx y2.1 ∈ GW ∧ Cond.instanceMethod y2.1 ∈ GW ∧ Cond.selects y2.1.cls y2.1 y2.1 ∈ GW
def am_lkS (own : String) (idx : Nat) (y2 : YR) (n : Nat) : Prop := am_lk y2 n ∧ Cond.methodLink own idx y2.1 ∈ GW ∧ Cond.static y2.1 ∈ GW
def am_lkI (own : String) (idx : Nat) (y2 : YR) (n : Nat) : Prop := am_lk y2 n ∧ y2.2.2.2.1 = none ∧ (Cond.methodLink own idx y2.1 ∈ GW ∨ ∃ host : String, Cond.methodLinkNest own idx y2.1 host ∈ am_NW) ∧ y2.1.name = "<init>" ∧ Cond.instanceMethod y2.1 ∈ GW
theorem am_pay {y y2 : YR} {d : Nat} {p : Program} {l : Launch} {R : Room} {s : State} {m : MethodId} {args : Array Value} {meth : Method} {c : Code} (hC : am_Ctx y d p l R s m args meth c) (hy2 : am_wf y2) : ∀ w ∈ am_ws y2, ∀ (a' : Array Value) (U : State), s.WarmedH U.vm → w.before a' U = true := by
  intro w hw a' U hW
  have hg : w ∈ GW := by
    rcases List.mem_cons.mp hw with e | e
    · rw [e]; exact hy2.1
    · exact e
  exact word_at hW (good_of_word (List.mem_filter.mp hg).2) (hC.2.2.2.2.1 w hg)
theorem am_blind {w : am_w} {av : List AV} {h : AH} : FrameBlind (am_Pc w av h) := fun a U g mk q => ⟨q.1, KS.warm (s := U) (State.WarmedH.refl U) q.2.1, q.2.2.1.moved (s := U) (Vm.Alike.refl U.vm), q.2.2.2.moved (s := U) (Vm.Alike.refl U.vm)⟩
theorem am_plen {y2 : YR} {n : Nat} (h : (parseMethodDescriptor y2.1.desc).map (fun d => d.parameters.length) = some n) : ∀ sig, parseMethodDescriptor y2.1.desc = some sig → n = sig.parameters.length := by
  intro sig hs
  rw [hs] at h
  exact (Option.some.inj h).symm
theorem am_rv (av st : List AV) (b : Nat) : am_st (av.reverse ++ vr b :: st) = (am_st av).reverse ++ .ref b :: am_st st := by
  simp [am_st, cv, va_rf]
theorem am_rs (av st : List AV) : am_st (av.reverse ++ st) = (am_st av).reverse ++ am_st st := by
  simp [am_st]
def am_cat8 (st : List AV) : Nat := (st.map fun v => if am_wide v = true then 2 else 1).sum
theorem am_cat_ok : ∀ st : List AV, ((am_st st).map fun v => v.category).sum = am_cat8 st
  | [] => rfl
  | v :: t => by
    have ih := am_cat_ok t
    have e : (cv v).category = if am_wide v = true then 2 else 1 := by
      rcases v with z | z | (_ | a) <;> rfl
    simp only [am_st, am_cat8, List.map_cons, List.sum_cons] at ih ⊢
    rw [e, ih]
section ACALL
variable {w : am_w} {y y2 : YR} {d d2 pc idx n b : Nat} {lv : List (Nat × AV)} {av st stk : List AV} {h h1 h' : AH} {r1 r : RV}
theorem AW.callV {ci : Nat} {nn : Int} {f : Int → Int} {g : Int → Option Nat} (hM : AM w y2 d2 (vr b :: av) h r1 h1) (kk : am_next w y d pc lv st r1 h1 r h') (hlk : am_lkV y.1.cls idx y2 n) (hdd : d2 + 1 ≤ d) (hst : stk = av.reverse ++ vr b :: st) (hn : av.length = n) (hb : h.1 b = some (ci, nn, f, g)) (hcl : ∃ q, vwCl[ci]? = some q ∧ q.1 = y2.1.cls) (h8 : am_cat8 st ≤ 8) (hd : decode y.2.1 pc = .ok (.invokevirtual idx, 3)) : AW w y d pc lv stk h r h' := by
  subst hst
  obtain ⟨m1, m2, m3, m4⟩ := hM
  obtain ⟨l1, l2⟩ := am_next_le kk
  refine ⟨Nat.le_trans m1 l1, Nat.le_trans m2 l2, fun p l e R s m args below meth c H locs cells slots Q ls hC hKS hKH hR hl hv hcl2 hsl hE => ?_⟩
  refine am_after m1 m2 kk hC hKS hl hv hcl2 hsl hE (a := (Value.ref b :: am_st av).toArray) ?_
  obtain ⟨⟨hwf, hhh, hini, hy, hpl, hnl⟩, hml, hin, hsel⟩ := hlk
  have hts := hC.2.2.2.2.1
  have hcw : am_cw y2 = Cond.code y2.1 y2.2.1 y2.2.2.1 y2.2.2.2.1 := by unfold am_cw; rw [if_pos hhh]
  obtain ⟨q, hq, hqc⟩ := hcl
  obtain ⟨-, -, cC, iS, hKn, cell, q1, q2, q3, -⟩ := am_obj (hR.2 b _ hb) hq
  have h5 := hC.2.2.2.2.2.2.2.2.1
  have h6 := hC.2.2.2.2.2.2.2.2.2.1
  rw [am_rv]
  exact vx_runV (C := y2.1.cls) (Ts := GW) ⟨hC.1, hC.2.1, hC.2.2.1, hC.2.2.2.1, hts⟩ (m4 l hC.2.2.2.2.2.2.2.1)
    ⟨⟨rfl, rfl, by show d2 + 1 ≤ R.frames; omega, by show 8 + (y2.2.2.1 + 11) + 48 * d2 ≤ R.locals; omega, am_pay hC hwf, by rw [← hcw]; exact List.mem_cons_self, by rw [← hcw]; exact hts _ hwf.1, hts _ hini, hy, am_plen hpl, hts _ hml⟩, hts _ hin, hts _ hsel⟩
    ⟨am_blind, ⟨cell, q1, by rw [q3]; rfl, by rw [q2, ← hqc]; exact hKn.2.1⟩, fun U hU hW => ⟨rfl, hKS.warm hW, by rw [hU]; exact hKH.moved hW.alike, by rw [hU]; exact hR.moved hW.alike⟩⟩
    rfl (by rw [← hn]; simp [am_st]) hv.1 rfl (lv_room (by rw [am_cat_ok]; exact h8)) hd ⟨by omega, by omega⟩
theorem AW.callS (hM : AM w y2 d2 av h r1 h1) (kk : am_next w y d pc lv st r1 h1 r h') (hlk : am_lkS y.1.cls idx y2 n) (hdd : d2 + 1 ≤ d) (hst : stk = av.reverse ++ st) (hn : av.length = n) (h8 : am_cat8 st ≤ 8) (hd : decode y.2.1 pc = .ok (.invokestatic idx, 3)) : AW w y d pc lv stk h r h' := by
  subst hst
  obtain ⟨m1, m2, m3, m4⟩ := hM
  obtain ⟨l1, l2⟩ := am_next_le kk
  refine ⟨Nat.le_trans m1 l1, Nat.le_trans m2 l2, fun p l e R s m args below meth c H locs cells slots Q ls hC hKS hKH hR hl hv hcl2 hsl hE => ?_⟩
  refine am_after m1 m2 kk hC hKS hl hv hcl2 hsl hE (a := (am_st av).toArray) ?_
  obtain ⟨⟨hwf, hhh, hini, hy, hpl, hnl⟩, hml, hst⟩ := hlk
  have hts := hC.2.2.2.2.1
  have hcw : am_cw y2 = Cond.code y2.1 y2.2.1 y2.2.2.1 y2.2.2.2.1 := by unfold am_cw; rw [if_pos hhh]
  have h5 := hC.2.2.2.2.2.2.2.2.1
  have h6 := hC.2.2.2.2.2.2.2.2.2.1
  rw [am_rs]
  exact vx_runS (Ts := GW) ⟨hC.1, hC.2.1, hC.2.2.1, hC.2.2.2.1, hts⟩ (m4 l hC.2.2.2.2.2.2.2.1)
    ⟨⟨rfl, rfl, by show d2 + 1 ≤ R.frames; omega, by show 8 + (y2.2.2.1 + 11) + 48 * d2 ≤ R.locals; omega, am_pay hC hwf, by rw [← hcw]; exact List.mem_cons_self, by rw [← hcw]; exact hts _ hwf.1, hts _ hini, hy, am_plen hpl, hts _ hml⟩, hts _ hst⟩
    ⟨am_blind, fun U hU hW => ⟨rfl, hKS.warm hW, by rw [hU]; exact hKH.moved hW.alike, by rw [hU]; exact hR.moved hW.alike⟩⟩
    rfl (by rw [← hn]; simp [am_st]) hv.1 rfl (lv_room (by rw [am_cat_ok]; exact h8)) hd ⟨by omega, by omega⟩
theorem AW.callI (hM : AM w y2 d2 (vr b :: av) h r1 h1) (kk : am_next w y d pc lv st r1 h1 r h') (hlk : am_lkI y.1.cls idx y2 n) (hdd : d2 + 1 ≤ d) (hst : stk = av.reverse ++ vr b :: st) (hn : av.length = n) (h8 : am_cat8 st ≤ 8) (hd : decode y.2.1 pc = .ok (.invokespecial idx, 3)) : AW w y d pc lv stk h r h' := by
  subst hst
  obtain ⟨m1, m2, m3, m4⟩ := hM
  obtain ⟨l1, l2⟩ := am_next_le kk
  refine ⟨Nat.le_trans m1 l1, Nat.le_trans m2 l2, fun p l e R s m args below meth c H locs cells slots Q ls hC hKS hKH hR hl hv hcl2 hsl hE => ?_⟩
  refine am_after m1 m2 kk hC hKS hl hv hcl2 hsl hE (a := (Value.ref b :: am_st av).toArray) ?_
  obtain ⟨⟨hwf, hhh, hini, hy, hpl, hnl⟩, hret, hml, hnm, hin⟩ := hlk
  have hts := hC.2.2.2.2.1
  have hcw : am_cw y2 = Cond.code y2.1 y2.2.1 y2.2.2.1 none := by unfold am_cw; rw [if_pos hhh, hret]
  have h5 := hC.2.2.2.2.2.2.2.2.1
  have h6 := hC.2.2.2.2.2.2.2.2.2.1
  rw [am_rv]
  have hPS : PreS s H (am_Pc w (vr b :: av) h) (.ref b :: am_st av) := ⟨am_blind, fun U hU hW => ⟨rfl, hKS.warm hW, by rw [hU]; exact hKH.moved hW.alike, by rw [hU]; exact hR.moved hW.alike⟩⟩
  rcases hml with hml | ⟨host, hml⟩
  · exact vx_runI (Ts := GW) ⟨hC.1, hC.2.1, hC.2.2.1, hC.2.2.2.1, hts⟩ (m4 l hC.2.2.2.2.2.2.2.1)
      ⟨⟨rfl, rfl, by show d2 + 1 ≤ R.frames; omega, by show 8 + (y2.2.2.1 + 11) + 48 * d2 ≤ R.locals; omega, am_pay hC hwf, by rw [← hcw]; exact List.mem_cons_self, by rw [← hcw]; exact hts _ hwf.1, hts _ hini, hy, am_plen hpl, hts _ hml⟩, hnm, hts _ hin⟩
      hPS rfl (by rw [← hn]; simp [am_st]) hv.1 rfl (lv_room (by rw [am_cat_ok]; exact h8)) hd ⟨by omega, by omega⟩
  · exact vx_runIN (Ts := GW) ⟨hC.1, hC.2.1, hC.2.2.1, hC.2.2.2.1, hts⟩ (m4 l hC.2.2.2.2.2.2.2.1)
      ⟨⟨⟨rfl, rfl, by show d2 + 1 ≤ R.frames; omega, by show 8 + (y2.2.2.1 + 11) + 48 * d2 ≤ R.locals; omega, am_pay hC hwf, by rw [← hcw]; exact List.mem_cons_self⟩, by rw [← hcw]; exact hts _ hwf.1, hts _ hini, hy, am_plen hpl, (hKS.1 _ hml).use rfl⟩, hnm, hts _ hin⟩
      hPS rfl (by rw [← hn]; simp [am_st]) hv.1 rfl (lv_room (by rw [am_cat_ok]; exact h8)) hd ⟨by omega, by omega⟩
end ACALL
