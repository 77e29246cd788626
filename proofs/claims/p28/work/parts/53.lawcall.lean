/-! Calls on a StringBuilder and on Strings; copies of bytes. -/
theorem am_plen2 {ds : String} {n : Nat} (h : (parseMethodDescriptor ds).map (fun d => d.parameters.length) = some n) : ∀ sig, parseMethodDescriptor ds = some sig → n = sig.parameters.length := by
  intro sig hs
  rw [hs] at h
  exact (Option.some.inj h).symm
section LCALL
variable {w : am_w} {y y2 : YR} {d d2 pc idx n b : Nat} {lv : List (Nat × AV)} {av st stk : List AV} {h h1 h' : AH} {r1 r : RV} {Q : RV → AH → Prop}
theorem AS.acopyB {ca a1 b1 : Nat} {n0 n1 sp dp k : Int} {f0 f1 : Int → Int} {g0 g1 : Int → Option Nat} (hd : decode y.2.1 pc = .ok (.invokestatic idx, 3)) (hca : ca = 101 ∨ ca = 111) (hf : ∀ j, 0 ≤ j → j < n0 → -128 ≤ f0 j ∧ f0 j < 128) (ha : h.1 a1 = some (ca, n0, f0, g0)) (hb : h.1 b1 = some (101, n1, f1, g1)) (p1 : 0 ≤ sp) (p2 : 0 ≤ dp) (p3 : 0 ≤ k) (p4 : sp + k ≤ n0) (p5 : dp + k ≤ n1) (h1 : Cond.methodLink y.1.cls idx arraycopyName ∈ GW) (h2 : Cond.native arraycopyName ∈ GW) (h3 : Cond.static arraycopyName ∈ GW) (h4 : Cond.initialized "java/lang/System" ∈ GW) (hd1 : 2 ≤ d) (h8 : am_cat8 st ≤ 8) :
    AS w y d pc lv (vi k :: vi dp :: vr b1 :: vi sp :: vr a1 :: st) h (pc + 3) lv st (am_set h b1 (101, n1, am_cpy f0 f1 sp dp k, g1)) :=
  AS.liftH rfl fun p l e R s m args below meth c H locs cells slots Q ls hC hKS hKH hR hl hcl hsl hv kk => by
    have h5 := hC.2.2.2.2.2.2.2.2.1
    have h6 := hC.2.2.2.2.2.2.2.2.2.1
    have e9 : ((st.map cv).map fun v => v.category).sum = am_cat8 st := am_cat_ok st
    obtain ⟨q1, q2, cs0, q5, q3, q4, q6, q7⟩ := am_arr (by omega) (hR.2 a1 _ ha)
    have qb : am_aty ca = .byte := by rcases hca with rfl | rfl <;> rfl
    rw [qb] at q3 q7
    have q8 : ∀ j : Nat, j < n0.toNat → cs0.slots[j]? = some (Value.int (Int32.ofInt (f0 j))) := q7
    obtain ⟨r0, r1, r2, c1, r3, r4, r5⟩ := am_own (by decide) (by decide) (hR.2 b1 _ hb)
    have rk : am_r k := ⟨by omega, by omega⟩
    have rs : am_r sp := ⟨by omega, by omega⟩
    have rd : am_r dp := ⟨by omega, by omega⟩
    have hn9 : nativeFrameWords "java/lang/System" "arraycopy" 5 ≤ 60 := by decide +kernel
    have ck := am_clamp rk
    have cs := am_clamp rs
    have cd := am_clamp rd
    have ik := am_toInt rk
    have is := am_toInt rs
    have id9 := am_toInt rd
    intro T hT X
    obtain ⟨qv, k0, hk0, cm0, hkk0⟩ := q3
    obtain ⟨-, k1, hk1, cm1, hkk1⟩ := r3 n1.toNat (fun j => .int (Int32.ofInt (f1 j)))
    obtain ⟨vm', X', step⟩ := X.arraycopy hC.1 hC.2.2.2.1 (hC.2.2.2.2.1 _ h1) (hC.2.2.2.2.1 _ h2) (hC.2.2.2.2.1 _ h3) (hC.2.2.2.2.1 _ h4) (src := a1) (dst := b1) (cs := cs0) (cd := arrV c1 n1.toNat (fun j => .int (Int32.ofInt (f1 j)))) (srcPos := Int32.ofInt sp) (destPos := Int32.ofInt dp) (n := Int32.ofInt k) (by rw [hT]; exact q5) (by rw [hT]; exact r5)
      qv (fun _ h => by cases h) q4 (fun h => by cases h) hk0 hk1 hkk0 hkk1 (by decide) (fun z => by have := (am_lt rs am_r0).mp z; omega) (fun z => by have := (am_lt rd am_r0).mp z; omega) (fun z => by have := (am_lt rk am_r0).mp z; omega)
      (by rw [is, ik, q6]; omega) (by rw [id9, ik, arrV_size]; omega)
      (fun vm₁ _ i hi => by
        have e : cs0.slots.getD ((Int32.ofInt sp).toNatClampNeg + i) .null = .int (Int32.ofInt (f0 (((Int32.ofInt sp).toNatClampNeg + i : Nat) : Int))) := by
          rw [Array.getD_eq_getD_getElem?, q8 _ (by omega)]
          rfl
        have hb8 := hf (((Int32.ofInt sp).toNatClampNeg + i : Nat) : Int) (by omega) (by omega)
        refine ⟨?_, ?_⟩
        · rw [e]; exact (am_fit_ok (ty := .byte) (r := none) hb8).2
        · rw [e]; exact trivial)
      (g := F0 m pc ls (.int (Int32.ofInt k) :: .int (Int32.ofInt dp) :: .ref b1 :: .int (Int32.ofInt sp) :: .ref a1 :: am_st st)) rfl (hv.1.trans hC.2.2.1.symm) (rest := am_st st) rfl (by rw [hC.2.1]; exact hd) (by omega) (by show 2 * 0 + ((st.map cv).map fun v => v.category).sum + _ ≤ _; omega)
    have e1 : copied cs0 (arrV c1 n1.toNat (fun j => .int (Int32.ofInt (f1 j)))) (Int32.ofInt sp) (Int32.ofInt dp) (Int32.ofInt k) = arrV c1 n1.toNat (fun j => am_sv (am_ety 101) (am_cpy f0 f1 sp dp k j) (g1 j)) := by
      refine (va_copiedX (fun z => .int z) cs0 c1 (n0 := n0.toNat) (fun j => Int32.ofInt (f0 j)) (fun j => Int32.ofInt (f1 j)) (sp := (Int32.ofInt sp).toNatClampNeg) (dp := (Int32.ofInt dp).toNatClampNeg) (n := (Int32.ofInt k).toNatClampNeg) q8 (by omega)).trans ?_
      congr 1
      funext j
      show Value.int _ = Value.int _
      congr 1
      unfold va_cpy am_cpy
      rw [ck, cs, cd]
      by_cases hj : dp.toNat ≤ j ∧ j < dp.toNat + k.toNat
      · rw [if_pos hj, if_pos ⟨by omega, by omega⟩]
        obtain ⟨hj1, hj2⟩ := hj
        exact congrArg (fun z => Int32.ofInt (f0 z)) (by omega)
      · rw [if_neg hj, if_neg (by omega)]
    rw [e1] at X' step
    have hl9 : b1 < H.size := (Array.getElem?_eq_some_iff.mp r5).1
    generalize hcc : arrV c1 n1.toNat (fun j => am_sv (am_ety 101) (am_cpy f0 f1 sp dp k j) (g1 j)) = CC at X' step
    have hheap : ((T.setVm vm').setCell b1 CC).heap = H.setIfInBounds b1 CC := by rw [← hT]; rfl
    have oq : ∀ q : Nat, q ≠ b1 → (H.setIfInBounds b1 CC)[q]? = H[q]? := fun q hq => by simp [Array.getElem?_setIfInBounds, Ne.symm hq]
    have ob : (H.setIfInBounds b1 CC)[b1]? = some CC := by simp [Array.getElem?_setIfInBounds, hl9]
    have oz : (H.setIfInBounds b1 CC).size = H.size := by simp
    obtain ⟨t, a9, b9⟩ := kk (H.setIfInBounds b1 CC) _ ls (hKH.one r0 oz oq) (hR.set oz oq (am_ownI (by decide) (by decide) r0 r1 r2 r3 r4 (by rw [ob, ← hcc]))) (fun q hq => by
      rcases List.mem_append.mp hq with h | h
      · exact hl q h
      · obtain ⟨z, -, hz⟩ := List.mem_map.mp h
        rw [← hz]
        exact r0) hv _ hheap X'
    exact ⟨t, step t a9, b9⟩
abbrev am_SB : String := "java/lang/StringBuilder"
abbrev am_AB : String := "java/lang/AbstractStringBuilder"
theorem am_selp {C : String} {x z z' : MethodName} {s : State} {args : Array Value} (hz : z'.cls = x.cls) (hx : x.cls ≠ "java/lang/invoke/MethodHandle" ∧ x.cls ≠ "java/lang/invoke/VarHandle")
    (h0 : (Cond.selects C z z').before args s = true) (hpriv : (Cond.privateMethod x).before args s = true) (hinst : (Cond.instanceMethod x).before args s = true) : (Cond.selects C x x).before args s = true := by
  obtain ⟨c, r0, m0, hc, -, hm0, -, k0, hk0, hi0⟩ := Cond.selects_spec (args := args) (first := s) (o := none) (s := s) (idx := []) h0
  obtain ⟨mk, methM, hnamed, hmethM, -, -⟩ := Cond.instanceMethod_spec hinst
  have hfound : s.methodFound? x.cls x.name x.desc = some mk := State.methodFound?_of_named hnamed hx
  have hcls : mk.cls = m0.cls := Option.some.inj ((findClass_of_methodNamed hnamed).symm.trans (hz ▸ findClass_of_methodNamed hm0))
  have hsel : selectMethod {} s.vm c mk = .method mk := selectMethod_private hmethM (Cond.privateMethod_at hpriv mk methM hnamed hmethM)
  simp only [Cond.before, Cond.holds, Cond.value, hc, hfound, hnamed, hsel, hcls, hk0]
  simp [hi0]
/-- a call's entry of the pool: a method that StringBuilder inherits or has instead -/
def am_lkU (own : String) (idx : Nat) (x : MethodName) (y2 : YR) (n : Nat) : Prop :=
  (am_wf y2 ∧ y2.2.2.2.2 = [] ∧ Cond.initialized y2.1.cls ∈ GW ∧ (parseMethodDescriptor x.desc).map (fun d => d.parameters.length) = some n ∧ y2.2.2.1 ≤ 29) ∧ Cond.methodLink own idx x ∈ GW ∧ Cond.sameMethod x.cls am_AB x.name x.desc ∈ GW ∧
  (Cond.instanceMethod ⟨am_AB, x.name, x.desc⟩ ∈ GW ∧ ∃ b0 m0 r0, Cond.code ⟨am_AB, x.name, x.desc⟩ b0 m0 r0 ∈ GW) ∧ Cond.instanceMethod y2.1 ∈ GW ∧
  (Cond.selects am_SB x y2.1 ∈ GW ∨ (x = y2.1 ∧ (x.cls ≠ "java/lang/invoke/MethodHandle" ∧ x.cls ≠ "java/lang/invoke/VarHandle") ∧ Cond.privateMethod x ∈ am_NW ∧ ∃ z z', z'.cls = x.cls ∧ Cond.selects am_SB z z' ∈ GW))
theorem AW.callU {x : MethodName} {nn : Int} {f : Int → Int} {g : Int → Option Nat} (hM : AM w y2 d2 (vr b :: av) h r1 h1) (kk : am_next w y d pc lv st r1 h1 r h') (hlk : am_lkU y.1.cls idx x y2 n) (hdd : d2 + 1 ≤ d) (hst : stk = av.reverse ++ vr b :: st) (hn : av.length = n) (hb : h.1 b = some (13, nn, f, g)) (h8 : am_cat8 st ≤ 8) (hd : decode y.2.1 pc = .ok (.invokevirtual idx, 3)) : AW w y d pc lv stk h r h' := by
  subst hst
  obtain ⟨m1, m2, m3, m4⟩ := hM
  obtain ⟨l1, l2⟩ := am_next_le kk
  refine ⟨Nat.le_trans m1 l1, Nat.le_trans m2 l2, fun p l e R s m args below meth c H locs cells slots Q ls hC hKS hKH hR hl hv hcl2 hsl hE => ?_⟩
  refine am_after m1 m2 kk hC hKS hl hv hcl2 hsl hE (a := (Value.ref b :: am_st av).toArray) ?_
  obtain ⟨⟨hwf, hhh, hini, hpl, hnl⟩, hml, hsame, ⟨hoi, b0, q0, r0, hoc⟩, hin, hsel⟩ := hlk
  have hts := hC.2.2.2.2.1
  have hcw : am_cw y2 = Cond.code y2.1 y2.2.1 y2.2.2.1 y2.2.2.2.1 := by unfold am_cw; rw [if_pos hhh]
  obtain ⟨-, -, cC, iS, hKn, cell, q1, q2, q3, -⟩ := am_obj (hR.2 b _ hb) (q := (RJ4, TJ4, 4)) rfl
  have h5 := hC.2.2.2.2.2.2.2.2.1
  have h6 := hC.2.2.2.2.2.2.2.2.2.1
  have hs9 : (Cond.selects am_SB x y2.1).before args s = true := by
    rcases hsel with hsel | ⟨rfl, hx, hp, z, z', hz, hsel⟩
    · exact hts _ hsel
    · exact am_selp hz hx (hts _ hsel) ((hKS.1 _ hp).use rfl) (hts _ hin)
  rw [am_rv]
  exact vx_runU (x := x) (C := am_SB) (owner := am_AB) (Ts := GW) ⟨hC.1, hC.2.1, hC.2.2.1, hC.2.2.2.1, hts⟩ (m4 l hC.2.2.2.2.2.2.2.1)
    ⟨⟨rfl, rfl, by show d2 + 1 ≤ R.frames; omega, by show 8 + (y2.2.2.1 + 11) + 48 * d2 ≤ R.locals; omega, am_pay hC hwf, by rw [← hcw]; exact List.mem_cons_self⟩, by rw [← hcw]; exact hts _ hwf.1, hts _ hini, ⟨by decide, by decide⟩, am_plen2 hpl, hts _ hml, hts _ hsame, va_Decl.of (hts _ hoi) (hts _ hoc), hs9, hts _ hin⟩
    ⟨am_blind, ⟨cell, q1, by rw [q3]; rfl, by rw [q2]; exact hKn.2.1⟩, fun U hU hW => ⟨rfl, hKS.warm hW, by rw [hU]; exact hKH.moved hW.alike, by rw [hU]; exact hR.moved hW.alike⟩⟩
    rfl (by rw [← hn]; simp [am_st]) hv.1 rfl (lv_room (by rw [am_cat_ok]; exact h8)) hd ⟨by omega, by omega⟩
/-- super.m(..) of a StringBuilder -/
def am_lkZ (own : String) (idx : Nat) (y2 : YR) (n : Nat) : Prop :=
  (am_wf y2 ∧ y2.2.2.2.2 = [] ∧ Cond.initialized y2.1.cls ∈ GW ∧ (parseMethodDescriptor y2.1.desc).map (fun d => d.parameters.length) = some n ∧ y2.2.2.1 ≤ 29) ∧ Cond.methodLink own idx y2.1 ∈ GW ∧ Cond.sameMethod y2.1.cls y2.1.cls y2.1.name y2.1.desc ∈ GW ∧ Cond.superclass own y2.1.cls ∈ GW ∧ Cond.instanceMethod y2.1 ∈ GW ∧ y2.1.name ≠ "<init>"
theorem AW.callZ {nn : Int} {f : Int → Int} {g : Int → Option Nat} (hM : AM w y2 d2 (vr b :: av) h r1 h1) (kk : am_next w y d pc lv st r1 h1 r h') (hlk : am_lkZ y.1.cls idx y2 n) (hdd : d2 + 1 ≤ d) (hst : stk = av.reverse ++ vr b :: st) (hn : av.length = n) (hb : h.1 b = some (13, nn, f, g)) (h8 : am_cat8 st ≤ 8) (hd : decode y.2.1 pc = .ok (.invokespecial idx, 3)) : AW w y d pc lv stk h r h' := by
  subst hst
  obtain ⟨m1, m2, m3, m4⟩ := hM
  obtain ⟨l1, l2⟩ := am_next_le kk
  refine ⟨Nat.le_trans m1 l1, Nat.le_trans m2 l2, fun p l e R s m args below meth c H locs cells slots Q ls hC hKS hKH hR hl hv hcl2 hsl hE => ?_⟩
  refine am_after m1 m2 kk hC hKS hl hv hcl2 hsl hE (a := (Value.ref b :: am_st av).toArray) ?_
  obtain ⟨⟨hwf, hhh, hini, hpl, hnl⟩, hml, hsame, hsup, hin, hno⟩ := hlk
  have hts := hC.2.2.2.2.1
  have hcw : am_cw y2 = Cond.code y2.1 y2.2.1 y2.2.2.1 y2.2.2.2.1 := by unfold am_cw; rw [if_pos hhh]
  obtain ⟨-, -, cC, iS, hKn, cell, q1, q2, q3, -⟩ := am_obj (hR.2 b _ hb) (q := (RJ4, TJ4, 4)) rfl
  have h5 := hC.2.2.2.2.2.2.2.2.1
  have h6 := hC.2.2.2.2.2.2.2.2.2.1
  rw [am_rv]
  exact vx_runSU (C := RJ4) (cC := cC) (Ts := GW) hKn.2 ⟨hC.1, hC.2.1, hC.2.2.1, hC.2.2.2.1, hts⟩ (m4 l hC.2.2.2.2.2.2.2.1)
    ⟨⟨rfl, rfl, by show d2 + 1 ≤ R.frames; omega, by show 8 + (y2.2.2.1 + 11) + 48 * d2 ≤ R.locals; omega, am_pay hC hwf, by rw [← hcw]; exact List.mem_cons_self⟩, hts _ hml, hts _ hsame, hts _ hsup, hts _ hin, hts _ hini, by rw [← hcw]; exact hts _ hwf.1, hno, am_plen2 hpl⟩
    ⟨am_blind, ⟨cell, q1, by rw [q3]; rfl, by rw [q2]; exact hKn.2.1⟩, fun U hU hW => ⟨rfl, hKS.warm hW, by rw [hU]; exact hKH.moved hW.alike, by rw [hU]; exact hR.moved hW.alike⟩⟩
    rfl (by rw [← hn]; simp [am_st]) hv.1 rfl (lv_room (by rw [am_cat_ok]; exact h8)) hd ⟨by omega, by omega⟩
/-- a String's own method, the String seen by its bytes -/
theorem AW.callY {nn : Int} {f : Int → Int} {g : Int → Option Nat} (hM : AM w y2 d2 (vr b :: av) h r1 h1) (kk : am_next w y d pc lv st r1 h1 r h') (hlk : am_lkV y.1.cls idx y2 n) (hdd : d2 + 1 ≤ d) (hst : stk = av.reverse ++ vr b :: st) (hn : av.length = n) (hb : h.1 b = some (112, nn, f, g)) (hcl : y2.1.cls = "java/lang/String") (h8 : am_cat8 st ≤ 8) (hd : decode y.2.1 pc = .ok (.invokevirtual idx, 3)) : AW w y d pc lv stk h r h' := by
  subst hst
  obtain ⟨m1, m2, m3, m4⟩ := hM
  obtain ⟨l1, l2⟩ := am_next_le kk
  refine ⟨Nat.le_trans m1 l1, Nat.le_trans m2 l2, fun p l e R s m args below meth c H locs cells slots Q ls hC hKS hKH hR hl hv hcl2 hsl hE => ?_⟩
  refine am_after m1 m2 kk hC hKS hl hv hcl2 hsl hE (a := (Value.ref b :: am_st av).toArray) ?_
  obtain ⟨⟨hwf, hhh, hini, hy, hpl, hnl⟩, hml, hin, hsel⟩ := hlk
  have hts := hC.2.2.2.2.1
  have hcw : am_cw y2 = Cond.code y2.1 y2.2.1 y2.2.2.1 y2.2.2.2.1 := by unfold am_cw; rw [if_pos hhh]
  obtain ⟨cell, q1, q2, q3⟩ := (am_str rfl (hR.2 b _ hb)).1
  have h5 := hC.2.2.2.2.2.2.2.2.1
  have h6 := hC.2.2.2.2.2.2.2.2.2.1
  rw [am_rv]
  exact vx_runV (C := y2.1.cls) (Ts := GW) ⟨hC.1, hC.2.1, hC.2.2.1, hC.2.2.2.1, hts⟩ (m4 l hC.2.2.2.2.2.2.2.1)
    ⟨⟨rfl, rfl, by show d2 + 1 ≤ R.frames; omega, by show 8 + (y2.2.2.1 + 11) + 48 * d2 ≤ R.locals; omega, am_pay hC hwf, by rw [← hcw]; exact List.mem_cons_self, by rw [← hcw]; exact hts _ hwf.1, hts _ hini, hy, am_plen hpl, hts _ hml⟩, hts _ hin, hts _ hsel⟩
    ⟨am_blind, ⟨cell, q1, q2, by rw [hcl]; exact q3⟩, fun U hU hW => ⟨rfl, hKS.warm hW, by rw [hU]; exact hKH.moved hW.alike, by rw [hU]; exact hR.moved hW.alike⟩⟩
    rfl (by rw [← hn]; simp [am_st]) hv.1 rfl (lv_room (by rw [am_cat_ok]; exact h8)) hd ⟨by omega, by omega⟩
end LCALL
section LCALQ
variable {w : am_w} {y y2 : YR} {d d2 pc idx n b : Nat} {lv : List (Nat × AV)} {av st stk : List AV} {h : AH} {Q : RV → AH → Prop} {x : MethodName} {nn : Int} {f : Int → Int} {g : Int → Option Nat}
theorem AQ.callUi {P : Int → AH → Prop} (hE : AE w y2 d2 (vr b :: av) h (am_int P)) (hlk : am_lkU y.1.cls idx x y2 n) (hdd : d2 + 1 ≤ d) (hst : stk = av.reverse ++ vr b :: st) (hn : av.length = n) (hb : h.1 b = some (13, nn, f, g)) (h8 : am_cat8 st ≤ 8) (hd : decode y.2.1 pc = .ok (.invokevirtual idx, 3)) (kk : ∀ (z : Int) (h1 : AH), P z h1 → AQ w y d (pc + 3) lv (vi z :: st) h1 Q) : AQ w y d pc lv stk h Q := by
  obtain ⟨r1, h1, hM, z, rfl, hp⟩ := hE
  obtain ⟨r, h', k1, k2⟩ := kk z h1 hp
  exact ⟨r, h', AW.callU hM (r := r) k1 hlk hdd hst hn hb h8 hd, k2⟩
theorem AQ.callUr {P : Nat → AH → Prop} (hE : AE w y2 d2 (vr b :: av) h (am_ref P)) (hlk : am_lkU y.1.cls idx x y2 n) (hdd : d2 + 1 ≤ d) (hst : stk = av.reverse ++ vr b :: st) (hn : av.length = n) (hb : h.1 b = some (13, nn, f, g)) (h8 : am_cat8 st ≤ 8) (hd : decode y.2.1 pc = .ok (.invokevirtual idx, 3)) (kk : ∀ (z : Nat) (h1 : AH), P z h1 → AQ w y d (pc + 3) lv (vr z :: st) h1 Q) : AQ w y d pc lv stk h Q := by
  obtain ⟨r1, h1, hM, z, rfl, hp⟩ := hE
  obtain ⟨r, h', k1, k2⟩ := kk z h1 hp
  exact ⟨r, h', AW.callU hM (r := r) k1 hlk hdd hst hn hb h8 hd, k2⟩
theorem AQ.callUv {P : AH → Prop} (hE : AE w y2 d2 (vr b :: av) h (am_unit P)) (hlk : am_lkU y.1.cls idx x y2 n) (hdd : d2 + 1 ≤ d) (hst : stk = av.reverse ++ vr b :: st) (hn : av.length = n) (hb : h.1 b = some (13, nn, f, g)) (h8 : am_cat8 st ≤ 8) (hd : decode y.2.1 pc = .ok (.invokevirtual idx, 3)) (kk : ∀ (h1 : AH), P h1 → AQ w y d (pc + 3) lv (st) h1 Q) : AQ w y d pc lv stk h Q := by
  obtain ⟨r1, h1, hM, rfl, hp⟩ := hE
  obtain ⟨r, h', k1, k2⟩ := kk h1 hp
  exact ⟨r, h', AW.callU hM (r := r) k1 hlk hdd hst hn hb h8 hd, k2⟩
theorem AQ.callZi {P : Int → AH → Prop} (hE : AE w y2 d2 (vr b :: av) h (am_int P)) (hlk : am_lkZ y.1.cls idx y2 n) (hdd : d2 + 1 ≤ d) (hst : stk = av.reverse ++ vr b :: st) (hn : av.length = n) (hb : h.1 b = some (13, nn, f, g)) (h8 : am_cat8 st ≤ 8) (hd : decode y.2.1 pc = .ok (.invokespecial idx, 3)) (kk : ∀ (z : Int) (h1 : AH), P z h1 → AQ w y d (pc + 3) lv (vi z :: st) h1 Q) : AQ w y d pc lv stk h Q := by
  obtain ⟨r1, h1, hM, z, rfl, hp⟩ := hE
  obtain ⟨r, h', k1, k2⟩ := kk z h1 hp
  exact ⟨r, h', AW.callZ hM (r := r) k1 hlk hdd hst hn hb h8 hd, k2⟩
theorem AQ.callZr {P : Nat → AH → Prop} (hE : AE w y2 d2 (vr b :: av) h (am_ref P)) (hlk : am_lkZ y.1.cls idx y2 n) (hdd : d2 + 1 ≤ d) (hst : stk = av.reverse ++ vr b :: st) (hn : av.length = n) (hb : h.1 b = some (13, nn, f, g)) (h8 : am_cat8 st ≤ 8) (hd : decode y.2.1 pc = .ok (.invokespecial idx, 3)) (kk : ∀ (z : Nat) (h1 : AH), P z h1 → AQ w y d (pc + 3) lv (vr z :: st) h1 Q) : AQ w y d pc lv stk h Q := by
  obtain ⟨r1, h1, hM, z, rfl, hp⟩ := hE
  obtain ⟨r, h', k1, k2⟩ := kk z h1 hp
  exact ⟨r, h', AW.callZ hM (r := r) k1 hlk hdd hst hn hb h8 hd, k2⟩
theorem AQ.callZv {P : AH → Prop} (hE : AE w y2 d2 (vr b :: av) h (am_unit P)) (hlk : am_lkZ y.1.cls idx y2 n) (hdd : d2 + 1 ≤ d) (hst : stk = av.reverse ++ vr b :: st) (hn : av.length = n) (hb : h.1 b = some (13, nn, f, g)) (h8 : am_cat8 st ≤ 8) (hd : decode y.2.1 pc = .ok (.invokespecial idx, 3)) (kk : ∀ (h1 : AH), P h1 → AQ w y d (pc + 3) lv (st) h1 Q) : AQ w y d pc lv stk h Q := by
  obtain ⟨r1, h1, hM, rfl, hp⟩ := hE
  obtain ⟨r, h', k1, k2⟩ := kk h1 hp
  exact ⟨r, h', AW.callZ hM (r := r) k1 hlk hdd hst hn hb h8 hd, k2⟩
theorem AQ.callYi {P : Int → AH → Prop} (hE : AE w y2 d2 (vr b :: av) h (am_int P)) (hlk : am_lkV y.1.cls idx y2 n) (hdd : d2 + 1 ≤ d) (hst : stk = av.reverse ++ vr b :: st) (hn : av.length = n) (hb : h.1 b = some (112, nn, f, g)) (hcl : y2.1.cls = "java/lang/String") (h8 : am_cat8 st ≤ 8) (hd : decode y.2.1 pc = .ok (.invokevirtual idx, 3)) (kk : ∀ (z : Int) (h1 : AH), P z h1 → AQ w y d (pc + 3) lv (vi z :: st) h1 Q) : AQ w y d pc lv stk h Q := by
  obtain ⟨r1, h1, hM, z, rfl, hp⟩ := hE
  obtain ⟨r, h', k1, k2⟩ := kk z h1 hp
  exact ⟨r, h', AW.callY hM (r := r) k1 hlk hdd hst hn hb hcl h8 hd, k2⟩
theorem AQ.callYr {P : Nat → AH → Prop} (hE : AE w y2 d2 (vr b :: av) h (am_ref P)) (hlk : am_lkV y.1.cls idx y2 n) (hdd : d2 + 1 ≤ d) (hst : stk = av.reverse ++ vr b :: st) (hn : av.length = n) (hb : h.1 b = some (112, nn, f, g)) (hcl : y2.1.cls = "java/lang/String") (h8 : am_cat8 st ≤ 8) (hd : decode y.2.1 pc = .ok (.invokevirtual idx, 3)) (kk : ∀ (z : Nat) (h1 : AH), P z h1 → AQ w y d (pc + 3) lv (vr z :: st) h1 Q) : AQ w y d pc lv stk h Q := by
  obtain ⟨r1, h1, hM, z, rfl, hp⟩ := hE
  obtain ⟨r, h', k1, k2⟩ := kk z h1 hp
  exact ⟨r, h', AW.callY hM (r := r) k1 hlk hdd hst hn hb hcl h8 hd, k2⟩
theorem AQ.callYv {P : AH → Prop} (hE : AE w y2 d2 (vr b :: av) h (am_unit P)) (hlk : am_lkV y.1.cls idx y2 n) (hdd : d2 + 1 ≤ d) (hst : stk = av.reverse ++ vr b :: st) (hn : av.length = n) (hb : h.1 b = some (112, nn, f, g)) (hcl : y2.1.cls = "java/lang/String") (h8 : am_cat8 st ≤ 8) (hd : decode y.2.1 pc = .ok (.invokevirtual idx, 3)) (kk : ∀ (h1 : AH), P h1 → AQ w y d (pc + 3) lv (st) h1 Q) : AQ w y d pc lv stk h Q := by
  obtain ⟨r1, h1, hM, rfl, hp⟩ := hE
  obtain ⟨r, h', k1, k2⟩ := kk h1 hp
  exact ⟨r, h', AW.callY hM (r := r) k1 hlk hdd hst hn hb hcl h8 hd, k2⟩
end LCALQ
