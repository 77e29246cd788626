/-! The law: calls within handlers. -/
section LAWR
variable {w : am_w} {y y2 : YR} {d d2 pc idx n b : Nat} {lv : List (Nat × AV)} {av st stk : List AV} {h h1 h' : AH} {r1 r : RV} {Q : RV → AH → Prop}
/-- caught by a handler of this method -/
theorem AX.catch {k : Nat} {name : String} (pre : List ExceptionTableEntry) (x : ExceptionTableEntry) (suf : List ExceptionTableEntry) (hsplit : tableOf y.2.2.2.2 = pre ++ x :: suf)
    (hpass : ∀ z ∈ pre, covers z pc = false ∨ (z.catchType ≠ 0 ∧ ∃ nm : String, Cond.classLink y.1.cls z.catchType nm ∈ GW ∧ (am_exc k, nm) ∈ am_NC)) (hx : covers x pc = true) (h0 : x.catchType ≠ 0)
    (hlink : Cond.classLink y.1.cls x.catchType name ∈ GW) (hcast : Cond.castable (am_exc k) name ∈ am_NW) (kk : ∀ q, AW w y d x.handlerPc lv [vr q] h r h') : AX w y d pc lv h k r h' :=
  ⟨(kk 0).1, (kk 0).2.1, fun p l e R s m args below meth c H locs cells slots Q ls rest q ce hC hKS hKH hR hl hv hcl hsl hE hq hvm hcls => by
    have hts := hC.2.2.2.2.1
    have htb : c.exceptionTable.toList = tableOf y.2.2.2.2 := hC.2.2.2.2.2.2.2.2.2.2.1
    exact vx_catch hC.2.2.2.1 pre x suf (htb.trans hsplit) (fun z hz => by
      rcases hpass z hz with a | ⟨a, nm, b1, b2⟩
      · exact Or.inl a
      · exact Or.inr ⟨a, nm, hts _ b1, hKS.2.2.1 _ b2⟩) hx h0 (hts _ hlink) ((hKS.1 _ hcast).use (am_nw_on (List.mem_filter.mp hcast).2)) hq hvm hcls ((kk q).2.2 p l e R s m args below meth c H locs cells slots Q ls hC hKS hKH hR hl hv hcl hsl hE)⟩
theorem AX.catchQ {k : Nat} {c : Int} {name : String} (pre : List ExceptionTableEntry) (x : ExceptionTableEntry) (suf : List ExceptionTableEntry) (hsplit : tableOf y.2.2.2.2 = pre ++ x :: suf)
    (hpass : ∀ z ∈ pre, covers z pc = false ∨ (z.catchType ≠ 0 ∧ ∃ nm : String, Cond.classLink y.1.cls z.catchType nm ∈ GW ∧ (am_exc k, nm) ∈ am_NC)) (hx : covers x pc = true) (h0 : x.catchType ≠ 0)
    (hlink : Cond.classLink y.1.cls x.catchType name ∈ GW) (hcast : Cond.castable (am_exc k) name ∈ am_NW) (kk : ∀ q, AQ w y d x.handlerPc lv [vr q] h (fun r h' => r = .inl (some (vi c)) ∧ h' = h)) : AX w y d pc lv h k (.inl (some (vi c))) h :=
  AX.catch pre x suf hsplit hpass hx h0 hlink hcast fun q => by
    obtain ⟨r9, h9, k9, rfl, rfl⟩ := kk q
    exact k9
/-- a call within handlers -/
theorem AQ.callcVi {P : Int → AH → Prop} {X : Nat → AH → Prop} {ci : Nat} (hE : AE w y2 d2 (vr b :: av) h (am_or (am_int P) X)) (hlk : am_lkV y.1.cls idx y2 n) (hdd : d2 + 1 ≤ d) (hst : stk = av.reverse ++ vr b :: st) (hn : av.length = n) (hb : am_ob h b ci) (hcl : ∃ q, vwCl[ci]? = some q ∧ q.1 = y2.1.cls) (h8 : am_cat8 st ≤ 8) (hd : decode y.2.1 pc = .ok (.invokevirtual idx, 3))
    (hX : ∀ (k : Nat) (h1 : AH), X k h1 → ∃ c : Int, AX w y d pc lv h1 k (.inl (some (vi c))) h1 ∧ Q (.inl (some (vi c))) h1) (kk : ∀ (z : Int) (h1 : AH), P z h1 → AQ w y d (pc + 3) lv (vi z :: st) h1 Q) : AQ w y d pc lv stk h Q := by
  obtain ⟨nn9, f9, g9, hb⟩ := hb
  obtain ⟨r1, h1, hM, ⟨z, rfl, hp⟩ | ⟨k, rfl, hp⟩⟩ := hE
  · obtain ⟨r, h', k1, k2⟩ := kk z h1 hp
    exact ⟨r, h', AW.callV hM (r := r) k1 hlk hdd hst hn hb hcl h8 hd, k2⟩
  · obtain ⟨c, x1, x2⟩ := hX k h1 hp
    exact ⟨_, h1, AW.callV hM (r := .inl (some (vi c))) (h' := h1) x1 hlk hdd hst hn hb hcl h8 hd, x2⟩
/-- a call's entry, of a method that has handlers -/
def am_lkW (own : String) (idx : Nat) (y2 : YR) (n : Nat) : Prop := (am_wf y2 ∧ y2.2.2.2.2 ≠ [] ∧ Cond.initialized y2.1.cls ∈ GW ∧ (y2.1.cls ≠ "java/lang/invoke/MethodHandle" ∧ y2.1.cls ≠ "java/lang/invoke/VarHandle") ∧ (parseMethodDescriptor y2.1.desc).map (fun d => d.parameters.length) = some n ∧ y2.2.2.1 ≤ 29) ∧ Cond.methodLink own idx y2.1 ∈ GW ∧ Cond.static y2.1 ∈ GW
theorem AW.callSW (hM : AM w y2 d2 av h r1 h1) (kk : am_next w y d pc lv st r1 h1 r h') (hlk : am_lkW y.1.cls idx y2 n) (hdd : d2 + 1 ≤ d) (hst : stk = av.reverse ++ st) (hn : av.length = n) (h8 : am_cat8 st ≤ 8) (hd : decode y.2.1 pc = .ok (.invokestatic idx, 3)) : AW w y d pc lv stk h r h' := by
  subst hst
  obtain ⟨m1, m2, m3, m4⟩ := hM
  obtain ⟨l1, l2⟩ := am_next_le kk
  refine ⟨Nat.le_trans m1 l1, Nat.le_trans m2 l2, fun p l e R s m args below meth c H locs cells slots Q ls hC hKS hKH hR hl hv hcl2 hsl hE => ?_⟩
  refine am_after m1 m2 kk hC hKS hl hv hcl2 hsl hE (a := (am_st av).toArray) ?_
  obtain ⟨⟨hwf, hhh, hini, hy, hpl, hnl⟩, hml, hst⟩ := hlk
  have hts := hC.2.2.2.2.1
  have hcw : am_cw y2 = Cond.codeWith y2.1 y2.2.1 y2.2.2.1 y2.2.2.2.1 y2.2.2.2.2 := by unfold am_cw; rw [if_neg hhh]
  have h5 := hC.2.2.2.2.2.2.2.2.1
  have h6 := hC.2.2.2.2.2.2.2.2.2.1
  rw [am_rs]
  exact vx_runSX (Ts := GW) ⟨hC.1, hC.2.1, hC.2.2.1, hC.2.2.2.1, hts⟩ (m4 l hC.2.2.2.2.2.2.2.1)
    ⟨⟨rfl, rfl, by show d2 + 1 ≤ R.frames; omega, by show 8 + (y2.2.2.1 + 11) + 48 * d2 ≤ R.locals; omega, am_pay hC hwf, by rw [← hcw]; exact List.mem_cons_self⟩, by rw [← hcw]; exact hts _ hwf.1, hts _ hini, hy, am_plen hpl, hts _ hml, hts _ hst⟩
    ⟨am_blind, fun U hU hW => ⟨rfl, hKS.warm hW, by rw [hU]; exact hKH.moved hW.alike, by rw [hU]; exact hR.moved hW.alike⟩⟩
    rfl (by rw [← hn]; simp [am_st]) hv.1 rfl (lv_room (by rw [am_cat_ok]; exact h8)) hd ⟨by omega, by omega⟩
theorem AQ.callWi {P : Int → AH → Prop} (hE : AE w y2 d2 av h (am_int P)) (hlk : am_lkW y.1.cls idx y2 n) (hdd : d2 + 1 ≤ d) (hst : stk = av.reverse ++ st) (hn : av.length = n) (h8 : am_cat8 st ≤ 8) (hd : decode y.2.1 pc = .ok (.invokestatic idx, 3)) (kk : ∀ (z : Int) (h1 : AH), P z h1 → AQ w y d (pc + 3) lv (vi z :: st) h1 Q) : AQ w y d pc lv stk h Q := by
  obtain ⟨r1, h1, hM, z, rfl, hp⟩ := hE
  obtain ⟨r, h', k1, k2⟩ := kk z h1 hp
  exact ⟨r, h', AW.callSW hM (r := r) k1 hlk hdd hst hn h8 hd, k2⟩
/-- the number that an int is when made a long -/
def am_wr (z : Int) : Int := (Int32.ofInt z).toInt
theorem AS.i2lw {a : Int} (hd : decode y.2.1 pc = .ok (.i2l, 1)) : AS w y d pc lv (vi a :: st) h (pc + 1) lv (vl (am_wr a) :: st) h :=
  AS.lift fun p l e R s m args below meth c H locs cells slots Q ls hC hKS hKH hR hl hcl hsl hv kk => lv_i2l hC.1 hC.2.1 hd (by rw [show Int32.ofInt a = Int32.ofInt (am_wr a) from (Int32.ofInt_toInt _).symm]; exact am_i2l ⟨Int32.le_toInt _, Int32.toInt_lt _⟩) (kk ls hv)
/-- two numbers that are the same -/
theorem AS.ic_eq_s {off : Int} {tgt : Nat} {a : Int} (hd : decode y.2.1 pc = .ok (.if_icmp .eq off, 3)) (ht : (pc : Int) + off = (tgt : Int)) : AS w y d pc lv (vi a :: vi a :: st) h tgt lv st h :=
  AS.lift fun p l e R s m args below meth c H locs cells slots Q ls hC hKS hKH hR hl hcl hsl hv kk => lv_icmp_eq hC.1 hC.2.1 hd ht (fun _ => kk ls hv) (fun hn => absurd rfl hn)
end LAWR

/-- what the law's calls answer for what is thrown -/
def gx_thr (k : Nat) : Int := if k = 0 then -2000000098 else if k = 1 then -2000000100 else if k = 2 then -2000000097 else -2000000099

theorem lkw_L_load : am_lkW RL 19 m_L_load 2 := ⟨⟨wf_L_load, by decide, (am_gw 38 (by decide +kernel) (by decide +kernel)), ⟨by decide +kernel, by decide +kernel⟩, by decide +kernel, by decide⟩, (am_gw 632 (by decide +kernel) (by decide +kernel)), (am_gw 633 (by decide +kernel) (by decide +kernel))⟩
theorem c_L_load {w : am_w} {h : AH} {o d : Nat} {a0 : Int} {S : Int → AH → Prop} {X : Nat → AH → Prop} (hE : AE w m_X8_load d [vr o, vi a0] h (am_or (am_int S) X)) (ho : am_ob h o 7) (hX : ∀ k h1, X k h1 → k = 0) : AE w m_L_load (d + 1) [vr o, vi a0] h (am_int (fun z h2 => S z h2 ∨ ∃ k, X k h2 ∧ z = gx_thr k)) := by
  refine AE.of wf_L_load (Nat.le_of_ble_eq_true rfl) am_ok_i ?_
  refine q_blk (lv2 := [(0, vr o), (1, vi a0)]) (st2 := [vi a0, vr o]) kL_load_0 rfl ?_
  refine AQ.callcVi (av := [vi a0]) (st := []) hE lk_RL_37 (Nat.le_refl _) rfl rfl ho ⟨_, rfl, rfl⟩ (Nat.le_of_ble_eq_true rfl) eL_load_2 ?_ ?_
  · intro k h1 hx
    obtain rfl := hX k h1 hx
    refine ⟨(-2000000098), AX.catchQ (name := "java/lang/IllegalArgumentException") [] _ _ rfl (fun z hz => by cases hz) rfl (by decide) (am_gw 635 (by decide +kernel) (by decide +kernel)) (am_nw 642 (by decide +kernel) (by decide +kernel)) (fun q => ?_), (-2000000098), rfl, Or.inr ⟨0, hx, rfl⟩⟩
    refine q_blk (lv2 := [(0, vr o), (1, vi a0), (2, vr q)]) (st2 := []) kL_load_6 rfl ?_
    refine AQ.of (AS.ldc (z := (-2000000098)) eL_load_7 (am_gw 1022 (by decide +kernel) (by decide +kernel))) ?_
    exact q_ri rfl eL_load_9 ⟨rfl, rfl⟩
  · intro z h1 hs
    exact q_ri rfl eL_load_5 ⟨z, rfl, Or.inl hs⟩

theorem lkw_L_count : am_lkW RL 222 m_L_count 2 := ⟨⟨wf_L_count, by decide, (am_gw 38 (by decide +kernel) (by decide +kernel)), ⟨by decide +kernel, by decide +kernel⟩, by decide +kernel, by decide⟩, (am_gw 1509 (by decide +kernel) (by decide +kernel)), (am_gw 1510 (by decide +kernel) (by decide +kernel))⟩
theorem c_L_count {w : am_w} {h : AH} {o d : Nat} {a0 : Int} {S : Int → AH → Prop} {X : Nat → AH → Prop} (hE : AE w m_X8_count d [vr o, vi a0] h (am_or (am_int S) X)) (ho : am_ob h o 7) (hX : ∀ k h1, X k h1 → k = 0) : AE w m_L_count (d + 1) [vr o, vi a0] h (am_int (fun z h2 => S z h2 ∨ ∃ k, X k h2 ∧ z = gx_thr k)) := by
  refine AE.of wf_L_count (Nat.le_of_ble_eq_true rfl) am_ok_i ?_
  refine q_blk (lv2 := [(0, vr o), (1, vi a0)]) (st2 := [vi a0, vr o]) kL_count_0 rfl ?_
  refine AQ.callcVi (av := [vi a0]) (st := []) hE lk_RL_43 (Nat.le_refl _) rfl rfl ho ⟨_, rfl, rfl⟩ (Nat.le_of_ble_eq_true rfl) eL_count_2 ?_ ?_
  · intro k h1 hx
    obtain rfl := hX k h1 hx
    refine ⟨(-2000000098), AX.catchQ (name := "java/lang/IllegalArgumentException") [] _ _ rfl (fun z hz => by cases hz) rfl (by decide) (am_gw 635 (by decide +kernel) (by decide +kernel)) (am_nw 642 (by decide +kernel) (by decide +kernel)) (fun q => ?_), (-2000000098), rfl, Or.inr ⟨0, hx, rfl⟩⟩
    refine q_blk (lv2 := [(0, vr o), (1, vi a0), (2, vr q)]) (st2 := []) kL_count_6 rfl ?_
    refine AQ.of (AS.ldc (z := (-2000000098)) eL_count_7 (am_gw 1022 (by decide +kernel) (by decide +kernel))) ?_
    exact q_ri rfl eL_count_9 ⟨rfl, rfl⟩
  · intro z h1 hs
    exact q_ri rfl eL_count_5 ⟨z, rfl, Or.inl hs⟩

theorem lkw_L_polygon : am_lkW RL 234 m_L_polygon 3 := ⟨⟨wf_L_polygon, by decide, (am_gw 38 (by decide +kernel) (by decide +kernel)), ⟨by decide +kernel, by decide +kernel⟩, by decide +kernel, by decide⟩, (am_gw 1571 (by decide +kernel) (by decide +kernel)), (am_gw 1572 (by decide +kernel) (by decide +kernel))⟩
theorem c_L_polygon {w : am_w} {h : AH} {o d : Nat} {a0 a1 : Int} {S : Int → AH → Prop} {X : Nat → AH → Prop} (hE : AE w m_X8_polygon d [vr o, vi a0, vi a1] h (am_or (am_int S) X)) (ho : am_ob h o 7) (hX : ∀ k h1, X k h1 → k = 2 ∨ k = 0) : AE w m_L_polygon (d + 1) [vr o, vi a0, vi a1] h (am_int (fun z h2 => S z h2 ∨ ∃ k, X k h2 ∧ z = gx_thr k)) := by
  refine AE.of wf_L_polygon (Nat.le_of_ble_eq_true rfl) am_ok_i ?_
  refine q_blk (lv2 := [(0, vr o), (1, vi a0), (2, vi a1)]) (st2 := [vi a1, vi a0, vr o]) kL_polygon_0 rfl ?_
  refine AQ.callcVi (av := [vi a0, vi a1]) (st := []) hE lk_RL_53 (Nat.le_refl _) rfl rfl ho ⟨_, rfl, rfl⟩ (Nat.le_of_ble_eq_true rfl) eL_polygon_3 ?_ ?_
  · intro k h1 hx
    rcases hX k h1 hx with rfl | rfl
    · refine ⟨(-2000000097), AX.catchQ (name := "java/lang/IndexOutOfBoundsException") [] _ _ rfl (fun z hz => by cases hz) rfl (by decide) (am_gw 1056 (by decide +kernel) (by decide +kernel)) (am_nw 1067 (by decide +kernel) (by decide +kernel)) (fun q => ?_), (-2000000097), rfl, Or.inr ⟨2, hx, rfl⟩⟩
      refine q_blk (lv2 := [(0, vr o), (1, vi a0), (2, vi a1), (3, vr q)]) (st2 := []) kL_polygon_7 rfl ?_
      refine AQ.of (AS.ldc (z := (-2000000097)) eL_polygon_8 (am_gw 1087 (by decide +kernel) (by decide +kernel))) ?_
      exact q_ri rfl eL_polygon_10 ⟨rfl, rfl⟩
    · refine ⟨(-2000000098), AX.catchQ (name := "java/lang/IllegalArgumentException") [_] _ _ rfl (fun z hz => by
        obtain rfl := List.mem_singleton.mp hz
        exact Or.inr ⟨by decide, "java/lang/IndexOutOfBoundsException", (am_gw 1056 (by decide +kernel) (by decide +kernel)), by decide⟩) rfl (by decide) (am_gw 635 (by decide +kernel) (by decide +kernel)) (am_nw 642 (by decide +kernel) (by decide +kernel)) (fun q => ?_), (-2000000098), rfl, Or.inr ⟨0, hx, rfl⟩⟩
      refine q_blk (lv2 := [(0, vr o), (1, vi a0), (2, vi a1), (3, vr q)]) (st2 := []) kL_polygon_11 rfl ?_
      refine AQ.of (AS.ldc (z := (-2000000098)) eL_polygon_12 (am_gw 1022 (by decide +kernel) (by decide +kernel))) ?_
      exact q_ri rfl eL_polygon_14 ⟨rfl, rfl⟩
  · intro z h1 hs
    exact q_ri rfl eL_polygon_6 ⟨z, rfl, Or.inl hs⟩

theorem lkw_L_cornerAt : am_lkW RL 237 m_L_cornerAt 3 := ⟨⟨wf_L_cornerAt, by decide, (am_gw 38 (by decide +kernel) (by decide +kernel)), ⟨by decide +kernel, by decide +kernel⟩, by decide +kernel, by decide⟩, (am_gw 1579 (by decide +kernel) (by decide +kernel)), (am_gw 1580 (by decide +kernel) (by decide +kernel))⟩
theorem c_L_cornerAt {w : am_w} {h : AH} {o d : Nat} {a0 a1 : Int} {S : Int → AH → Prop} {X : Nat → AH → Prop} (hE : AE w m_X8_cornerAt d [vr o, vi a0, vi a1] h (am_or (am_int S) X)) (ho : am_ob h o 7) (hX : ∀ k h1, X k h1 → k = 2 ∨ k = 1) : AE w m_L_cornerAt (d + 1) [vr o, vi a0, vi a1] h (am_int (fun z h2 => S z h2 ∨ ∃ k, X k h2 ∧ z = gx_thr k)) := by
  refine AE.of wf_L_cornerAt (Nat.le_of_ble_eq_true rfl) am_ok_i ?_
  refine q_blk (lv2 := [(0, vr o), (1, vi a0), (2, vi a1)]) (st2 := [vi a1, vi a0, vr o]) kL_cornerAt_0 rfl ?_
  refine AQ.callcVi (av := [vi a0, vi a1]) (st := []) hE lk_RL_59 (Nat.le_refl _) rfl rfl ho ⟨_, rfl, rfl⟩ (Nat.le_of_ble_eq_true rfl) eL_cornerAt_3 ?_ ?_
  · intro k h1 hx
    rcases hX k h1 hx with rfl | rfl
    · refine ⟨(-2000000097), AX.catchQ (name := "java/lang/IndexOutOfBoundsException") [] _ _ rfl (fun z hz => by cases hz) rfl (by decide) (am_gw 1056 (by decide +kernel) (by decide +kernel)) (am_nw 1067 (by decide +kernel) (by decide +kernel)) (fun q => ?_), (-2000000097), rfl, Or.inr ⟨2, hx, rfl⟩⟩
      refine q_blk (lv2 := [(0, vr o), (1, vi a0), (2, vi a1), (3, vr q)]) (st2 := []) kL_cornerAt_7 rfl ?_
      refine AQ.of (AS.ldc (z := (-2000000097)) eL_cornerAt_8 (am_gw 1087 (by decide +kernel) (by decide +kernel))) ?_
      exact q_ri rfl eL_cornerAt_10 ⟨rfl, rfl⟩
    · refine ⟨(-2000000100), AX.catchQ (name := "java/util/NoSuchElementException") [_] _ _ rfl (fun z hz => by
        obtain rfl := List.mem_singleton.mp hz
        exact Or.inr ⟨by decide, "java/lang/IndexOutOfBoundsException", (am_gw 1056 (by decide +kernel) (by decide +kernel)), by decide⟩) rfl (by decide) (am_gw 1026 (by decide +kernel) (by decide +kernel)) (am_nw 1033 (by decide +kernel) (by decide +kernel)) (fun q => ?_), (-2000000100), rfl, Or.inr ⟨1, hx, rfl⟩⟩
      refine q_blk (lv2 := [(0, vr o), (1, vi a0), (2, vi a1), (3, vr q)]) (st2 := []) kL_cornerAt_11 rfl ?_
      refine AQ.of (AS.ldc (z := (-2000000100)) eL_cornerAt_12 (am_gw 1052 (by decide +kernel) (by decide +kernel))) ?_
      exact q_ri rfl eL_cornerAt_14 ⟨rfl, rfl⟩
  · intro z h1 hs
    exact q_ri rfl eL_cornerAt_6 ⟨z, rfl, Or.inl hs⟩

theorem lkw_L_stone : am_lkW RL 239 m_L_stone 3 := ⟨⟨wf_L_stone, by decide, (am_gw 38 (by decide +kernel) (by decide +kernel)), ⟨by decide +kernel, by decide +kernel⟩, by decide +kernel, by decide⟩, (am_gw 1023 (by decide +kernel) (by decide +kernel)), (am_gw 1024 (by decide +kernel) (by decide +kernel))⟩
theorem c_L_stone {w : am_w} {h : AH} {o d : Nat} {a0 a1 : Int} {S : Int → AH → Prop} {X : Nat → AH → Prop} (hE : AE w m_X8_stone d [vr o, vi a0, vi a1] h (am_or (am_int S) X)) (ho : am_ob h o 7) (hX : ∀ k h1, X k h1 → k = 1 ∨ k = 0) : AE w m_L_stone (d + 1) [vr o, vi a0, vi a1] h (am_int (fun z h2 => S z h2 ∨ ∃ k, X k h2 ∧ z = gx_thr k)) := by
  refine AE.of wf_L_stone (Nat.le_of_ble_eq_true rfl) am_ok_i ?_
  refine q_blk (lv2 := [(0, vr o), (1, vi a0), (2, vi a1)]) (st2 := [vi a1, vi a0, vr o]) kL_stone_0 rfl ?_
  refine AQ.callcVi (av := [vi a0, vi a1]) (st := []) hE lk_RL_46 (Nat.le_refl _) rfl rfl ho ⟨_, rfl, rfl⟩ (Nat.le_of_ble_eq_true rfl) eL_stone_3 ?_ ?_
  · intro k h1 hx
    rcases hX k h1 hx with rfl | rfl
    · refine ⟨(-2000000100), AX.catchQ (name := "java/util/NoSuchElementException") [] _ _ rfl (fun z hz => by cases hz) rfl (by decide) (am_gw 1026 (by decide +kernel) (by decide +kernel)) (am_nw 1033 (by decide +kernel) (by decide +kernel)) (fun q => ?_), (-2000000100), rfl, Or.inr ⟨1, hx, rfl⟩⟩
      refine q_blk (lv2 := [(0, vr o), (1, vi a0), (2, vi a1), (3, vr q)]) (st2 := []) kL_stone_7 rfl ?_
      refine AQ.of (AS.ldc (z := (-2000000100)) eL_stone_8 (am_gw 1052 (by decide +kernel) (by decide +kernel))) ?_
      exact q_ri rfl eL_stone_10 ⟨rfl, rfl⟩
    · refine ⟨(-2000000098), AX.catchQ (name := "java/lang/IllegalArgumentException") [_] _ _ rfl (fun z hz => by
        obtain rfl := List.mem_singleton.mp hz
        exact Or.inr ⟨by decide, "java/util/NoSuchElementException", (am_gw 1026 (by decide +kernel) (by decide +kernel)), by decide⟩) rfl (by decide) (am_gw 635 (by decide +kernel) (by decide +kernel)) (am_nw 642 (by decide +kernel) (by decide +kernel)) (fun q => ?_), (-2000000098), rfl, Or.inr ⟨0, hx, rfl⟩⟩
      refine q_blk (lv2 := [(0, vr o), (1, vi a0), (2, vi a1), (3, vr q)]) (st2 := []) kL_stone_11 rfl ?_
      refine AQ.of (AS.ldc (z := (-2000000098)) eL_stone_12 (am_gw 1022 (by decide +kernel) (by decide +kernel))) ?_
      exact q_ri rfl eL_stone_14 ⟨rfl, rfl⟩
  · intro z h1 hs
    exact q_ri rfl eL_stone_6 ⟨z, rfl, Or.inl hs⟩

theorem lkw_L_begin : am_lkW RL 257 m_L_begin 4 := ⟨⟨wf_L_begin, by decide, (am_gw 38 (by decide +kernel) (by decide +kernel)), ⟨by decide +kernel, by decide +kernel⟩, by decide +kernel, by decide⟩, (am_gw 1130 (by decide +kernel) (by decide +kernel)), (am_gw 1131 (by decide +kernel) (by decide +kernel))⟩
theorem c_L_begin {w : am_w} {h : AH} {o d : Nat} {a0 a1 a2 : Int} {S : Int → AH → Prop} {X : Nat → AH → Prop} (hE : AE w m_X8_begin d [vr o, vi a0, vi a1, vi a2] h (am_or (am_int S) X)) (ho : am_ob h o 7) (hX : ∀ k h1, X k h1 → k = 0 ∨ k = 3) : AE w m_L_begin (d + 1) [vr o, vi a0, vi a1, vi a2] h (am_int (fun z h2 => S z h2 ∨ ∃ k, X k h2 ∧ z = gx_thr k)) := by
  refine AE.of wf_L_begin (Nat.le_of_ble_eq_true rfl) am_ok_i ?_
  refine q_blk (lv2 := [(0, vr o), (1, vi a0), (2, vi a1), (3, vi a2)]) (st2 := [vi a2, vi a1, vi a0, vr o]) kL_begin_0 rfl ?_
  refine AQ.callcVi (av := [vi a0, vi a1, vi a2]) (st := []) hE lk_RL_93 (Nat.le_refl _) rfl rfl ho ⟨_, rfl, rfl⟩ (Nat.le_of_ble_eq_true rfl) eL_begin_4 ?_ ?_
  · intro k h1 hx
    rcases hX k h1 hx with rfl | rfl
    · refine ⟨(-2000000098), AX.catchQ (name := "java/lang/IllegalArgumentException") [] _ _ rfl (fun z hz => by cases hz) rfl (by decide) (am_gw 635 (by decide +kernel) (by decide +kernel)) (am_nw 642 (by decide +kernel) (by decide +kernel)) (fun q => ?_), (-2000000098), rfl, Or.inr ⟨0, hx, rfl⟩⟩
      refine q_blk (lv2 := [(0, vr o), (1, vi a0), (2, vi a1), (3, vi a2), (4, vr q)]) (st2 := []) kL_begin_8 rfl ?_
      refine AQ.of (AS.ldc (z := (-2000000098)) eL_begin_10 (am_gw 1022 (by decide +kernel) (by decide +kernel))) ?_
      exact q_ri rfl eL_begin_12 ⟨rfl, rfl⟩
    · refine ⟨(-2000000099), AX.catchQ (name := "java/lang/IllegalStateException") [_] _ _ rfl (fun z hz => by
        obtain rfl := List.mem_singleton.mp hz
        exact Or.inr ⟨by decide, "java/lang/IllegalArgumentException", (am_gw 635 (by decide +kernel) (by decide +kernel)), by decide⟩) rfl (by decide) (am_gw 1091 (by decide +kernel) (by decide +kernel)) (am_nw 1103 (by decide +kernel) (by decide +kernel)) (fun q => ?_), (-2000000099), rfl, Or.inr ⟨3, hx, rfl⟩⟩
      refine q_blk (lv2 := [(0, vr o), (1, vi a0), (2, vi a1), (3, vi a2), (4, vr q)]) (st2 := []) kL_begin_13 rfl ?_
      refine AQ.of (AS.ldc (z := (-2000000099)) eL_begin_15 (am_gw 1118 (by decide +kernel) (by decide +kernel))) ?_
      exact q_ri rfl eL_begin_17 ⟨rfl, rfl⟩
  · intro z h1 hs
    exact q_ri rfl eL_begin_7 ⟨z, rfl, Or.inl hs⟩

theorem lkw_L_corner : am_lkW RL 260 m_L_corner 4 := ⟨⟨wf_L_corner, by decide, (am_gw 38 (by decide +kernel) (by decide +kernel)), ⟨by decide +kernel, by decide +kernel⟩, by decide +kernel, by decide⟩, (am_gw 1140 (by decide +kernel) (by decide +kernel)), (am_gw 1141 (by decide +kernel) (by decide +kernel))⟩
theorem c_L_corner {w : am_w} {h : AH} {o d : Nat} {a0 a1 a2 : Int} {S : Int → AH → Prop} {X : Nat → AH → Prop} (hE : AE w m_X8_corner d [vr o, vi a0, vi a1, vi a2] h (am_or (am_int S) X)) (ho : am_ob h o 7) (hX : ∀ k h1, X k h1 → k = 2 ∨ k = 0) : AE w m_L_corner (d + 1) [vr o, vi a0, vi a1, vi a2] h (am_int (fun z h2 => S z h2 ∨ ∃ k, X k h2 ∧ z = gx_thr k)) := by
  refine AE.of wf_L_corner (Nat.le_of_ble_eq_true rfl) am_ok_i ?_
  refine q_blk (lv2 := [(0, vr o), (1, vi a0), (2, vi a1), (3, vi a2)]) (st2 := [vi a2, vi a1, vi a0, vr o]) kL_corner_0 rfl ?_
  refine AQ.callcVi (av := [vi a0, vi a1, vi a2]) (st := []) hE lk_RL_96 (Nat.le_refl _) rfl rfl ho ⟨_, rfl, rfl⟩ (Nat.le_of_ble_eq_true rfl) eL_corner_4 ?_ ?_
  · intro k h1 hx
    rcases hX k h1 hx with rfl | rfl
    · refine ⟨(-2000000097), AX.catchQ (name := "java/lang/IndexOutOfBoundsException") [] _ _ rfl (fun z hz => by cases hz) rfl (by decide) (am_gw 1056 (by decide +kernel) (by decide +kernel)) (am_nw 1067 (by decide +kernel) (by decide +kernel)) (fun q => ?_), (-2000000097), rfl, Or.inr ⟨2, hx, rfl⟩⟩
      refine q_blk (lv2 := [(0, vr o), (1, vi a0), (2, vi a1), (3, vi a2), (4, vr q)]) (st2 := []) kL_corner_8 rfl ?_
      refine AQ.of (AS.ldc (z := (-2000000097)) eL_corner_10 (am_gw 1087 (by decide +kernel) (by decide +kernel))) ?_
      exact q_ri rfl eL_corner_12 ⟨rfl, rfl⟩
    · refine ⟨(-2000000098), AX.catchQ (name := "java/lang/IllegalArgumentException") [_] _ _ rfl (fun z hz => by
        obtain rfl := List.mem_singleton.mp hz
        exact Or.inr ⟨by decide, "java/lang/IndexOutOfBoundsException", (am_gw 1056 (by decide +kernel) (by decide +kernel)), by decide⟩) rfl (by decide) (am_gw 635 (by decide +kernel) (by decide +kernel)) (am_nw 642 (by decide +kernel) (by decide +kernel)) (fun q => ?_), (-2000000098), rfl, Or.inr ⟨0, hx, rfl⟩⟩
      refine q_blk (lv2 := [(0, vr o), (1, vi a0), (2, vi a1), (3, vi a2), (4, vr q)]) (st2 := []) kL_corner_13 rfl ?_
      refine AQ.of (AS.ldc (z := (-2000000098)) eL_corner_15 (am_gw 1022 (by decide +kernel) (by decide +kernel))) ?_
      exact q_ri rfl eL_corner_17 ⟨rfl, rfl⟩
  · intro z h1 hs
    exact q_ri rfl eL_corner_7 ⟨z, rfl, Or.inl hs⟩

theorem lkw_L_close : am_lkW RL 262 m_L_close 2 := ⟨⟨wf_L_close, by decide, (am_gw 38 (by decide +kernel) (by decide +kernel)), ⟨by decide +kernel, by decide +kernel⟩, by decide +kernel, by decide⟩, (am_gw 1148 (by decide +kernel) (by decide +kernel)), (am_gw 1149 (by decide +kernel) (by decide +kernel))⟩
theorem c_L_close {w : am_w} {h : AH} {o d : Nat} {a0 : Int} {S : Int → AH → Prop} {X : Nat → AH → Prop} (hE : AE w m_X8_close d [vr o, vi a0] h (am_or (am_int S) X)) (ho : am_ob h o 7) (hX : ∀ k h1, X k h1 → k = 2) : AE w m_L_close (d + 1) [vr o, vi a0] h (am_int (fun z h2 => S z h2 ∨ ∃ k, X k h2 ∧ z = gx_thr k)) := by
  refine AE.of wf_L_close (Nat.le_of_ble_eq_true rfl) am_ok_i ?_
  refine q_blk (lv2 := [(0, vr o), (1, vi a0)]) (st2 := [vi a0, vr o]) kL_close_0 rfl ?_
  refine AQ.callcVi (av := [vi a0]) (st := []) hE lk_RL_99 (Nat.le_refl _) rfl rfl ho ⟨_, rfl, rfl⟩ (Nat.le_of_ble_eq_true rfl) eL_close_2 ?_ ?_
  · intro k h1 hx
    obtain rfl := hX k h1 hx
    refine ⟨(-2000000097), AX.catchQ (name := "java/lang/IndexOutOfBoundsException") [] _ _ rfl (fun z hz => by cases hz) rfl (by decide) (am_gw 1056 (by decide +kernel) (by decide +kernel)) (am_nw 1067 (by decide +kernel) (by decide +kernel)) (fun q => ?_), (-2000000097), rfl, Or.inr ⟨2, hx, rfl⟩⟩
    refine q_blk (lv2 := [(0, vr o), (1, vi a0), (2, vr q)]) (st2 := []) kL_close_6 rfl ?_
    refine AQ.of (AS.ldc (z := (-2000000097)) eL_close_7 (am_gw 1087 (by decide +kernel) (by decide +kernel))) ?_
    exact q_ri rfl eL_close_9 ⟨rfl, rfl⟩
  · intro z h1 hs
    exact q_ri rfl eL_close_5 ⟨z, rfl, Or.inl hs⟩

theorem lkw_L_bend : am_lkW RL 279 m_L_bend 5 := ⟨⟨wf_L_bend, by decide, (am_gw 38 (by decide +kernel) (by decide +kernel)), ⟨by decide +kernel, by decide +kernel⟩, by decide +kernel, by decide⟩, (am_gw 1160 (by decide +kernel) (by decide +kernel)), (am_gw 1161 (by decide +kernel) (by decide +kernel))⟩
theorem c_L_bend {w : am_w} {h : AH} {o d : Nat} {a0 a1 a2 a3 : Int} {S : Int → AH → Prop} {X : Nat → AH → Prop} (hE : AE w m_X8_bend d [vr o, vi a0, vi a1, vi a2, vi a3] h (am_or (am_int S) X)) (ho : am_ob h o 7) (hX : ∀ k h1, X k h1 → k = 2 ∨ k = 1 ∨ k = 0) : AE w m_L_bend (d + 1) [vr o, vi a0, vi a1, vi a2, vi a3] h (am_int (fun z h2 => S z h2 ∨ ∃ k, X k h2 ∧ z = gx_thr k)) := by
  refine AE.of wf_L_bend (Nat.le_of_ble_eq_true rfl) am_ok_i ?_
  refine q_blk (lv2 := [(0, vr o), (1, vi a0), (2, vi a1), (3, vi a2), (4, vi a3)]) (st2 := [vi a3, vi a2, vi a1, vi a0, vr o]) kL_bend_0 rfl ?_
  refine AQ.callcVi (av := [vi a0, vi a1, vi a2, vi a3]) (st := []) hE lk_RL_102 (Nat.le_refl _) rfl rfl ho ⟨_, rfl, rfl⟩ (Nat.le_of_ble_eq_true rfl) eL_bend_6 ?_ ?_
  · intro k h1 hx
    rcases hX k h1 hx with rfl | rfl | rfl
    · refine ⟨(-2000000097), AX.catchQ (name := "java/lang/IndexOutOfBoundsException") [] _ _ rfl (fun z hz => by cases hz) rfl (by decide) (am_gw 1056 (by decide +kernel) (by decide +kernel)) (am_nw 1067 (by decide +kernel) (by decide +kernel)) (fun q => ?_), (-2000000097), rfl, Or.inr ⟨2, hx, rfl⟩⟩
      refine q_blk (lv2 := [(0, vr o), (1, vi a0), (2, vi a1), (3, vi a2), (4, vi a3), (5, vr q)]) (st2 := []) kL_bend_10 rfl ?_
      refine AQ.of (AS.ldc (z := (-2000000097)) eL_bend_12 (am_gw 1087 (by decide +kernel) (by decide +kernel))) ?_
      exact q_ri rfl eL_bend_14 ⟨rfl, rfl⟩
    · refine ⟨(-2000000100), AX.catchQ (name := "java/util/NoSuchElementException") [_] _ _ rfl (fun z hz => by
        obtain rfl := List.mem_singleton.mp hz
        exact Or.inr ⟨by decide, "java/lang/IndexOutOfBoundsException", (am_gw 1056 (by decide +kernel) (by decide +kernel)), by decide⟩) rfl (by decide) (am_gw 1026 (by decide +kernel) (by decide +kernel)) (am_nw 1033 (by decide +kernel) (by decide +kernel)) (fun q => ?_), (-2000000100), rfl, Or.inr ⟨1, hx, rfl⟩⟩
      refine q_blk (lv2 := [(0, vr o), (1, vi a0), (2, vi a1), (3, vi a2), (4, vi a3), (5, vr q)]) (st2 := []) kL_bend_15 rfl ?_
      refine AQ.of (AS.ldc (z := (-2000000100)) eL_bend_17 (am_gw 1052 (by decide +kernel) (by decide +kernel))) ?_
      exact q_ri rfl eL_bend_19 ⟨rfl, rfl⟩
    · refine ⟨(-2000000098), AX.catchQ (name := "java/lang/IllegalArgumentException") [_, _] _ _ rfl (fun z hz => by
        rcases List.mem_cons.mp hz with rfl | hz
        · exact Or.inr ⟨by decide, "java/lang/IndexOutOfBoundsException", (am_gw 1056 (by decide +kernel) (by decide +kernel)), by decide⟩
        · obtain rfl := List.mem_singleton.mp hz
          exact Or.inr ⟨by decide, "java/util/NoSuchElementException", (am_gw 1026 (by decide +kernel) (by decide +kernel)), by decide⟩) rfl (by decide) (am_gw 635 (by decide +kernel) (by decide +kernel)) (am_nw 642 (by decide +kernel) (by decide +kernel)) (fun q => ?_), (-2000000098), rfl, Or.inr ⟨0, hx, rfl⟩⟩
      refine q_blk (lv2 := [(0, vr o), (1, vi a0), (2, vi a1), (3, vi a2), (4, vi a3), (5, vr q)]) (st2 := []) kL_bend_20 rfl ?_
      refine AQ.of (AS.ldc (z := (-2000000098)) eL_bend_22 (am_gw 1022 (by decide +kernel) (by decide +kernel))) ?_
      exact q_ri rfl eL_bend_24 ⟨rfl, rfl⟩
  · intro z h1 hs
    exact q_ri rfl eL_bend_9 ⟨z, rfl, Or.inl hs⟩

theorem lkw_L_takeOut : am_lkW RL 287 m_L_takeOut 3 := ⟨⟨wf_L_takeOut, by decide, (am_gw 38 (by decide +kernel) (by decide +kernel)), ⟨by decide +kernel, by decide +kernel⟩, by decide +kernel, by decide⟩, (am_gw 1180 (by decide +kernel) (by decide +kernel)), (am_gw 1181 (by decide +kernel) (by decide +kernel))⟩
theorem c_L_takeOut {w : am_w} {h : AH} {o d : Nat} {a0 a1 : Int} {S : Int → AH → Prop} {X : Nat → AH → Prop} (hE : AE w m_X8_takeOut d [vr o, vi a0, vi a1] h (am_or (am_int S) X)) (ho : am_ob h o 7) (hX : ∀ k h1, X k h1 → k = 2 ∨ k = 1) : AE w m_L_takeOut (d + 1) [vr o, vi a0, vi a1] h (am_int (fun z h2 => S z h2 ∨ ∃ k, X k h2 ∧ z = gx_thr k)) := by
  refine AE.of wf_L_takeOut (Nat.le_of_ble_eq_true rfl) am_ok_i ?_
  refine q_blk (lv2 := [(0, vr o), (1, vi a0), (2, vi a1)]) (st2 := [vi a1, vi a0, vr o]) kL_takeOut_0 rfl ?_
  refine AQ.callcVi (av := [vi a0, vi a1]) (st := []) hE lk_RL_106 (Nat.le_refl _) rfl rfl ho ⟨_, rfl, rfl⟩ (Nat.le_of_ble_eq_true rfl) eL_takeOut_3 ?_ ?_
  · intro k h1 hx
    rcases hX k h1 hx with rfl | rfl
    · refine ⟨(-2000000097), AX.catchQ (name := "java/lang/IndexOutOfBoundsException") [] _ _ rfl (fun z hz => by cases hz) rfl (by decide) (am_gw 1056 (by decide +kernel) (by decide +kernel)) (am_nw 1067 (by decide +kernel) (by decide +kernel)) (fun q => ?_), (-2000000097), rfl, Or.inr ⟨2, hx, rfl⟩⟩
      refine q_blk (lv2 := [(0, vr o), (1, vi a0), (2, vi a1), (3, vr q)]) (st2 := []) kL_takeOut_7 rfl ?_
      refine AQ.of (AS.ldc (z := (-2000000097)) eL_takeOut_8 (am_gw 1087 (by decide +kernel) (by decide +kernel))) ?_
      exact q_ri rfl eL_takeOut_10 ⟨rfl, rfl⟩
    · refine ⟨(-2000000100), AX.catchQ (name := "java/util/NoSuchElementException") [_] _ _ rfl (fun z hz => by
        obtain rfl := List.mem_singleton.mp hz
        exact Or.inr ⟨by decide, "java/lang/IndexOutOfBoundsException", (am_gw 1056 (by decide +kernel) (by decide +kernel)), by decide⟩) rfl (by decide) (am_gw 1026 (by decide +kernel) (by decide +kernel)) (am_nw 1033 (by decide +kernel) (by decide +kernel)) (fun q => ?_), (-2000000100), rfl, Or.inr ⟨1, hx, rfl⟩⟩
      refine q_blk (lv2 := [(0, vr o), (1, vi a0), (2, vi a1), (3, vr q)]) (st2 := []) kL_takeOut_11 rfl ?_
      refine AQ.of (AS.ldc (z := (-2000000100)) eL_takeOut_12 (am_gw 1052 (by decide +kernel) (by decide +kernel))) ?_
      exact q_ri rfl eL_takeOut_14 ⟨rfl, rfl⟩
  · intro z h1 hs
    exact q_ri rfl eL_takeOut_6 ⟨z, rfl, Or.inl hs⟩

theorem lkw_L_remove : am_lkW RL 289 m_L_remove 2 := ⟨⟨wf_L_remove, by decide, (am_gw 38 (by decide +kernel) (by decide +kernel)), ⟨by decide +kernel, by decide +kernel⟩, by decide +kernel, by decide⟩, (am_gw 1196 (by decide +kernel) (by decide +kernel)), (am_gw 1197 (by decide +kernel) (by decide +kernel))⟩
theorem c_L_remove {w : am_w} {h : AH} {o d : Nat} {a0 : Int} {S : Int → AH → Prop} {X : Nat → AH → Prop} (hE : AE w m_X8_remove d [vr o, vi a0] h (am_or (am_int S) X)) (ho : am_ob h o 7) (hX : ∀ k h1, X k h1 → k = 2) : AE w m_L_remove (d + 1) [vr o, vi a0] h (am_int (fun z h2 => S z h2 ∨ ∃ k, X k h2 ∧ z = gx_thr k)) := by
  refine AE.of wf_L_remove (Nat.le_of_ble_eq_true rfl) am_ok_i ?_
  refine q_blk (lv2 := [(0, vr o), (1, vi a0)]) (st2 := [vi a0, vr o]) kL_remove_0 rfl ?_
  refine AQ.callcVi (av := [vi a0]) (st := []) hE lk_RL_109 (Nat.le_refl _) rfl rfl ho ⟨_, rfl, rfl⟩ (Nat.le_of_ble_eq_true rfl) eL_remove_2 ?_ ?_
  · intro k h1 hx
    obtain rfl := hX k h1 hx
    refine ⟨(-2000000097), AX.catchQ (name := "java/lang/IndexOutOfBoundsException") [] _ _ rfl (fun z hz => by cases hz) rfl (by decide) (am_gw 1056 (by decide +kernel) (by decide +kernel)) (am_nw 1067 (by decide +kernel) (by decide +kernel)) (fun q => ?_), (-2000000097), rfl, Or.inr ⟨2, hx, rfl⟩⟩
    refine q_blk (lv2 := [(0, vr o), (1, vi a0), (2, vr q)]) (st2 := []) kL_remove_6 rfl ?_
    refine AQ.of (AS.ldc (z := (-2000000097)) eL_remove_7 (am_gw 1087 (by decide +kernel) (by decide +kernel))) ?_
    exact q_ri rfl eL_remove_9 ⟨rfl, rfl⟩
  · intro z h1 hs
    exact q_ri rfl eL_remove_5 ⟨z, rfl, Or.inl hs⟩

theorem lkw_L_points : am_lkW RL 291 m_L_points 2 := ⟨⟨wf_L_points, by decide, (am_gw 38 (by decide +kernel) (by decide +kernel)), ⟨by decide +kernel, by decide +kernel⟩, by decide +kernel, by decide⟩, (am_gw 1119 (by decide +kernel) (by decide +kernel)), (am_gw 1120 (by decide +kernel) (by decide +kernel))⟩
theorem c_L_points {w : am_w} {h : AH} {o d : Nat} {a0 : Int} {S : Int → AH → Prop} {X : Nat → AH → Prop} (hE : AE w m_X8_points d [vr o, vi a0] h (am_or (am_int S) X)) (ho : am_ob h o 7) (hX : ∀ k h1, X k h1 → k = 0) : AE w m_L_points (d + 1) [vr o, vi a0] h (am_int (fun z h2 => S z h2 ∨ ∃ k, X k h2 ∧ z = gx_thr k)) := by
  refine AE.of wf_L_points (Nat.le_of_ble_eq_true rfl) am_ok_i ?_
  refine q_blk (lv2 := [(0, vr o), (1, vi a0)]) (st2 := [vi a0, vr o]) kL_points_0 rfl ?_
  refine AQ.callcVi (av := [vi a0]) (st := []) hE lk_RL_90 (Nat.le_refl _) rfl rfl ho ⟨_, rfl, rfl⟩ (Nat.le_of_ble_eq_true rfl) eL_points_2 ?_ ?_
  · intro k h1 hx
    obtain rfl := hX k h1 hx
    refine ⟨(-2000000098), AX.catchQ (name := "java/lang/IllegalArgumentException") [] _ _ rfl (fun z hz => by cases hz) rfl (by decide) (am_gw 635 (by decide +kernel) (by decide +kernel)) (am_nw 642 (by decide +kernel) (by decide +kernel)) (fun q => ?_), (-2000000098), rfl, Or.inr ⟨0, hx, rfl⟩⟩
    refine q_blk (lv2 := [(0, vr o), (1, vi a0), (2, vr q)]) (st2 := []) kL_points_6 rfl ?_
    refine AQ.of (AS.ldc (z := (-2000000098)) eL_points_7 (am_gw 1022 (by decide +kernel) (by decide +kernel))) ?_
    exact q_ri rfl eL_points_9 ⟨rfl, rfl⟩
  · intro z h1 hs
    exact q_ri rfl eL_points_5 ⟨z, rfl, Or.inl hs⟩

theorem lkw_L_area : am_lkW RL 293 m_L_area 2 := ⟨⟨wf_L_area, by decide, (am_gw 38 (by decide +kernel) (by decide +kernel)), ⟨by decide +kernel, by decide +kernel⟩, by decide +kernel, by decide⟩, (am_gw 1088 (by decide +kernel) (by decide +kernel)), (am_gw 1089 (by decide +kernel) (by decide +kernel))⟩
theorem c_L_area {w : am_w} {h : AH} {o d : Nat} {a0 : Int} {S : Int → AH → Prop} {X : Nat → AH → Prop} (hE : AE w m_X8_area d [vr o, vi a0] h (am_or (am_int S) X)) (ho : am_ob h o 7) (hX : ∀ k h1, X k h1 → k = 2 ∨ k = 3) : AE w m_L_area (d + 1) [vr o, vi a0] h (am_int (fun z h2 => S z h2 ∨ ∃ k, X k h2 ∧ z = gx_thr k)) := by
  refine AE.of wf_L_area (Nat.le_of_ble_eq_true rfl) am_ok_i ?_
  refine q_blk (lv2 := [(0, vr o), (1, vi a0)]) (st2 := [vi a0, vr o]) kL_area_0 rfl ?_
  refine AQ.callcVi (av := [vi a0]) (st := []) hE lk_RL_72 (Nat.le_refl _) rfl rfl ho ⟨_, rfl, rfl⟩ (Nat.le_of_ble_eq_true rfl) eL_area_2 ?_ ?_
  · intro k h1 hx
    rcases hX k h1 hx with rfl | rfl
    · refine ⟨(-2000000097), AX.catchQ (name := "java/lang/IndexOutOfBoundsException") [] _ _ rfl (fun z hz => by cases hz) rfl (by decide) (am_gw 1056 (by decide +kernel) (by decide +kernel)) (am_nw 1067 (by decide +kernel) (by decide +kernel)) (fun q => ?_), (-2000000097), rfl, Or.inr ⟨2, hx, rfl⟩⟩
      refine q_blk (lv2 := [(0, vr o), (1, vi a0), (2, vr q)]) (st2 := []) kL_area_6 rfl ?_
      refine AQ.of (AS.ldc (z := (-2000000097)) eL_area_7 (am_gw 1087 (by decide +kernel) (by decide +kernel))) ?_
      exact q_ri rfl eL_area_9 ⟨rfl, rfl⟩
    · refine ⟨(-2000000099), AX.catchQ (name := "java/lang/IllegalStateException") [_] _ _ rfl (fun z hz => by
        obtain rfl := List.mem_singleton.mp hz
        exact Or.inr ⟨by decide, "java/lang/IndexOutOfBoundsException", (am_gw 1056 (by decide +kernel) (by decide +kernel)), by decide⟩) rfl (by decide) (am_gw 1091 (by decide +kernel) (by decide +kernel)) (am_nw 1103 (by decide +kernel) (by decide +kernel)) (fun q => ?_), (-2000000099), rfl, Or.inr ⟨3, hx, rfl⟩⟩
      refine q_blk (lv2 := [(0, vr o), (1, vi a0), (2, vr q)]) (st2 := []) kL_area_10 rfl ?_
      refine AQ.of (AS.ldc (z := (-2000000099)) eL_area_11 (am_gw 1118 (by decide +kernel) (by decide +kernel))) ?_
      exact q_ri rfl eL_area_13 ⟨rfl, rfl⟩
  · intro z h1 hs
    exact q_ri rfl eL_area_5 ⟨z, rfl, Or.inl hs⟩

theorem lkw_L_reason : am_lkW RL 295 m_L_reason 4 := ⟨⟨wf_L_reason, by decide, (am_gw 38 (by decide +kernel) (by decide +kernel)), ⟨by decide +kernel, by decide +kernel⟩, by decide +kernel, by decide⟩, (am_gw 1053 (by decide +kernel) (by decide +kernel)), (am_gw 1054 (by decide +kernel) (by decide +kernel))⟩
theorem c_L_reason {w : am_w} {h : AH} {o d : Nat} {a0 a1 a2 : Int} {S : Int → AH → Prop} {X : Nat → AH → Prop} (hE : AE w m_X8_reason d [vr o, vi a0, vi a1, vi a2] h (am_or (am_int S) X)) (ho : am_ob h o 7) (hX : ∀ k h1, X k h1 → k = 2 ∨ k = 0) : AE w m_L_reason (d + 1) [vr o, vi a0, vi a1, vi a2] h (am_int (fun z h2 => S z h2 ∨ ∃ k, X k h2 ∧ z = gx_thr k)) := by
  refine AE.of wf_L_reason (Nat.le_of_ble_eq_true rfl) am_ok_i ?_
  refine q_blk (lv2 := [(0, vr o), (1, vi a0), (2, vi a1), (3, vi a2)]) (st2 := [vi a2, vi a1, vi a0, vr o]) kL_reason_0 rfl ?_
  refine AQ.callcVi (av := [vi a0, vi a1, vi a2]) (st := []) hE lk_RL_62 (Nat.le_refl _) rfl rfl ho ⟨_, rfl, rfl⟩ (Nat.le_of_ble_eq_true rfl) eL_reason_4 ?_ ?_
  · intro k h1 hx
    rcases hX k h1 hx with rfl | rfl
    · refine ⟨(-2000000097), AX.catchQ (name := "java/lang/IndexOutOfBoundsException") [] _ _ rfl (fun z hz => by cases hz) rfl (by decide) (am_gw 1056 (by decide +kernel) (by decide +kernel)) (am_nw 1067 (by decide +kernel) (by decide +kernel)) (fun q => ?_), (-2000000097), rfl, Or.inr ⟨2, hx, rfl⟩⟩
      refine q_blk (lv2 := [(0, vr o), (1, vi a0), (2, vi a1), (3, vi a2), (4, vr q)]) (st2 := []) kL_reason_8 rfl ?_
      refine AQ.of (AS.ldc (z := (-2000000097)) eL_reason_10 (am_gw 1087 (by decide +kernel) (by decide +kernel))) ?_
      exact q_ri rfl eL_reason_12 ⟨rfl, rfl⟩
    · refine ⟨(-2000000098), AX.catchQ (name := "java/lang/IllegalArgumentException") [_] _ _ rfl (fun z hz => by
        obtain rfl := List.mem_singleton.mp hz
        exact Or.inr ⟨by decide, "java/lang/IndexOutOfBoundsException", (am_gw 1056 (by decide +kernel) (by decide +kernel)), by decide⟩) rfl (by decide) (am_gw 635 (by decide +kernel) (by decide +kernel)) (am_nw 642 (by decide +kernel) (by decide +kernel)) (fun q => ?_), (-2000000098), rfl, Or.inr ⟨0, hx, rfl⟩⟩
      refine q_blk (lv2 := [(0, vr o), (1, vi a0), (2, vi a1), (3, vi a2), (4, vr q)]) (st2 := []) kL_reason_13 rfl ?_
      refine AQ.of (AS.ldc (z := (-2000000098)) eL_reason_15 (am_gw 1022 (by decide +kernel) (by decide +kernel))) ?_
      exact q_ri rfl eL_reason_17 ⟨rfl, rfl⟩
  · intro z h1 hs
    exact q_ri rfl eL_reason_7 ⟨z, rfl, Or.inl hs⟩
