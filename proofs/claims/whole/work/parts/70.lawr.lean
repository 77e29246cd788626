/-! The law: calls within handlers. -/
section LAWR
variable {w : am_w} {y y2 : YR} {d d2 pc idx n b : Nat} {lv : List (Nat × AV)} {av st stk : List AV} {h h1 h' : AH} {r1 r : RV} {Q : RV → AH → Prop}
/-- caught by a handler of this method -/
theorem AX.catch {k : Nat} {name : String} (pre : List ExceptionTableEntry) (x : ExceptionTableEntry) (suf : List ExceptionTableEntry) (hsplit : tableOf y.2.2.2.2 = pre ++ x :: suf)
    (hpass : ∀ z ∈ pre, covers z pc = false ∨ (z.catchType ≠ 0 ∧ ∃ nm : String, Cond.classLink y.1.cls z.catchType nm ∈ GW ∧ (am_exc k, nm) ∈ am_NC)) (hx : covers x pc = true) (h0 : x.catchType ≠ 0)
    (hlink : Cond.classLink y.1.cls x.catchType name ∈ GW) (hcast : Cond.castable (am_exc k) name ∈ am_NW) (kk : ∀ q, AW w y d x.handlerPc lv [vr q] h r h') : AX w y d pc lv h k r h' :=
  ⟨(kk 0).1, (kk 0).2.1, fun p l e R s m args below meth c H locs cells slots Q ls rest q ce hC hKS hKH hR hl hv hcl hsl hE hq hvm hcls => by
    have hts := hC.2.2.2.2.1
    have htb : c.exceptionTable.toList = tableOf y.2.2.2.2 := hC.2.2.2.2.2.2.2.2.2.2.1
    exact vx_catch hC.2.2.2.1 pre x suf (htb.trans hsplit) (fun z hz => by
      rcases hpass z hz with a | ⟨a, nm, b1, b2⟩
      · exact Or.inl a
      · exact Or.inr ⟨a, nm, hts _ b1, hKS.2.2.1 _ b2⟩) hx h0 (hts _ hlink) ((hKS.1 _ hcast).use (am_nw_on (List.mem_filter.mp hcast).2)) hq hvm hcls ((kk q).2.2 p l e R s m args below meth c H locs cells slots Q ls hC hKS hKH hR hl hv hcl hsl hE)⟩
theorem AX.catchQ {k : Nat} {c : Int} {name : String} (pre : List ExceptionTableEntry) (x : ExceptionTableEntry) (suf : List ExceptionTableEntry) (hsplit : tableOf y.2.2.2.2 = pre ++ x :: suf)
    (hpass : ∀ z ∈ pre, covers z pc = false ∨ (z.catchType ≠ 0 ∧ ∃ nm : String, Cond.classLink y.1.cls z.catchType nm ∈ GW ∧ (am_exc k, nm) ∈ am_NC)) (hx : covers x pc = true) (h0 : x.catchType ≠ 0)
    (hlink : Cond.classLink y.1.cls x.catchType name ∈ GW) (hcast : Cond.castable (am_exc k) name ∈ am_NW) (kk : ∀ q, AQ w y d x.handlerPc lv [vr q] h (fun r h' => r = .inl (some (vi c)) ∧ h' = h)) : AX w y d pc lv h k (.inl (some (vi c))) h :=
  AX.catch pre x suf hsplit hpass hx h0 hlink hcast fun q => by
    obtain ⟨r9, h9, k9, rfl, rfl⟩ := kk q
    exact k9
/-- a call within handlers -/
theorem AQ.callcVi {P : Int → AH → Prop} {X : Nat → AH → Prop} {ci : Nat} (hE : AE w y2 d2 (vr b :: av) h (am_or (am_int P) X)) (hlk : am_lkV y.1.cls idx y2 n) (hdd : d2 + 1 ≤ d) (hst : stk = av.reverse ++ vr b :: st) (hn : av.length = n) (hb : am_ob h b ci) (hcl : ∃ q, vwCl[ci]? = some q ∧ q.1 = y2.1.cls) (h8 : am_cat8 st ≤ 8) (hd : decode y.2.1 pc = .ok (.invokevirtual idx, 3))
    (hX : ∀ (k : Nat) (h1 : AH), X k h1 → ∃ c : Int, AX w y d pc lv h1 k (.inl (some (vi c))) h1 ∧ Q (.inl (some (vi c))) h1) (kk : ∀ (z : Int) (h1 : AH), P z h1 → AQ w y d (pc + 3) lv (vi z :: st) h1 Q) : AQ w y d pc lv stk h Q := by
  obtain ⟨nn9, f9, g9, hb⟩ := hb
  obtain ⟨r1, h1, hM, ⟨z, rfl, hp⟩ | ⟨k, rfl, hp⟩⟩ := hE
  · obtain ⟨r, h', k1, k2⟩ := kk z h1 hp
    exact ⟨r, h', AW.callV hM (r := r) k1 hlk hdd hst hn hb hcl h8 hd, k2⟩
  · obtain ⟨c, x1, x2⟩ := hX k h1 hp
    exact ⟨_, h1, AW.callV hM (r := .inl (some (vi c))) (h' := h1) x1 hlk hdd hst hn hb hcl h8 hd, x2⟩
/-- a call's entry, of a method that has handlers -/
def am_lkW (own : String) (idx : Nat) (y2 : YR) (n : Nat) : Prop := (am_wf y2 ∧ y2.2.2.2.2 ≠ [] ∧ Cond.initialized y2.1.cls ∈ GW ∧ (y2.1.cls ≠ "java/lang/invoke/MethodHandle" ∧ y2.1.cls ≠ "java/lang/invoke/VarHandle") ∧ (parseMethodDescriptor y2.1.desc).map (fun d => d.parameters.length) = some n ∧ y2.2.2.1 ≤ 29) ∧ Cond.methodLink own idx y2.1 ∈ GW ∧ Cond.static y2.1 ∈ GW
theorem AW.callSW (hM : AM w y2 d2 av h r1 h1) (kk : am_next w y d pc lv st r1 h1 r h') (hlk : am_lkW y.1.cls idx y2 n) (hdd : d2 + 1 ≤ d) (hst : stk = av.reverse ++ st) (hn : av.length = n) (h8 : am_cat8 st ≤ 8) (hd : decode y.2.1 pc = .ok (.invokestatic idx, 3)) : AW w y d pc lv stk h r h' := by
  subst hst
  obtain ⟨m1, m2, m3, m4⟩ := hM
  obtain ⟨l1, l2⟩ := am_next_le kk
  refine ⟨Nat.le_trans m1 l1, Nat.le_trans m2 l2, fun p l e R s m args below meth c H locs cells slots Q ls hC hKS hKH hR hl hv hcl2 hsl hE => ?_⟩
  refine am_after m1 m2 kk hC hKS hl hv hcl2 hsl hE (a := (am_st av).toArray) ?_
  obtain ⟨⟨hwf, hhh, hini, hy, hpl, hnl⟩, hml, hst⟩ := hlk
  have hts := hC.2.2.2.2.1
  have hcw : am_cw y2 = Cond.codeWith y2.1 y2.2.1 y2.2.2.1 y2.2.2.2.1 y2.2.2.2.2 := by unfold am_cw; rw [if_neg hhh]
  have h5 := hC.2.2.2.2.2.2.2.2.1
  have h6 := hC.2.2.2.2.2.2.2.2.2.1
  rw [am_rs]
  exact vx_runSX (Ts := GW) ⟨hC.1, hC.2.1, hC.2.2.1, hC.2.2.2.1, hts⟩ (m4 l hC.2.2.2.2.2.2.2.1)
    ⟨⟨rfl, rfl, by show d2 + 1 ≤ R.frames; omega, by show 8 + (y2.2.2.1 + 11) + 48 * d2 ≤ R.locals; omega, am_pay hC hwf, by rw [← hcw]; exact List.mem_cons_self⟩, by rw [← hcw]; exact hts _ hwf.1, hts _ hini, hy, am_plen hpl, hts _ hml, hts _ hst⟩
    ⟨am_blind, fun U hU hW => ⟨rfl, hKS.warm hW, by rw [hU]; exact hKH.moved hW.alike, by rw [hU]; exact hR.moved hW.alike⟩⟩
    rfl (by rw [← hn]; simp [am_st]) hv.1 rfl (lv_room (by rw [am_cat_ok]; exact h8)) hd ⟨by omega, by omega⟩
theorem AQ.callWi {P : Int → AH → Prop} (hE : AE w y2 d2 av h (am_int P)) (hlk : am_lkW y.1.cls idx y2 n) (hdd : d2 + 1 ≤ d) (hst : stk = av.reverse ++ st) (hn : av.length = n) (h8 : am_cat8 st ≤ 8) (hd : decode y.2.1 pc = .ok (.invokestatic idx, 3)) (kk : ∀ (z : Int) (h1 : AH), P z h1 → AQ w y d (pc + 3) lv (vi z :: st) h1 Q) : AQ w y d pc lv stk h Q := by
  obtain ⟨r1, h1, hM, z, rfl, hp⟩ := hE
  obtain ⟨r, h', k1, k2⟩ := kk z h1 hp
  exact ⟨r, h', AW.callSW hM (r := r) k1 hlk hdd hst hn h8 hd, k2⟩
/-- the number that an int is when made a long -/
def am_wr (z : Int) : Int := (Int32.ofInt z).toInt
theorem AS.i2lw {a : Int} (hd : decode y.2.1 pc = .ok (.i2l, 1)) : AS w y d pc lv (vi a :: st) h (pc + 1) lv (vl (am_wr a) :: st) h :=
  AS.lift fun p l e R s m args below meth c H locs cells slots Q ls hC hKS hKH hR hl hcl hsl hv kk => lv_i2l hC.1 hC.2.1 hd (by rw [show Int32.ofInt a = Int32.ofInt (am_wr a) from (Int32.ofInt_toInt _).symm]; exact am_i2l ⟨Int32.le_toInt _, Int32.toInt_lt _⟩) (kk ls hv)
/-- two numbers that are the same -/
theorem AS.ic_eq_s {off : Int} {tgt : Nat} {a : Int} (hd : decode y.2.1 pc = .ok (.if_icmp .eq off, 3)) (ht : (pc : Int) + off = (tgt : Int)) : AS w y d pc lv (vi a :: vi a :: st) h tgt lv st h :=
  AS.lift fun p l e R s m args below meth c H locs cells slots Q ls hC hKS hKH hR hl hcl hsl hv kk => lv_icmp_eq hC.1 hC.2.1 hd ht (fun _ => kk ls hv) (fun hn => absurd rfl hn)
end LAWR

theorem lk_L_load : am_lkW RL 90 m_L_load 3 := ⟨⟨wf_L_load, by decide, (am_gw 88 (by decide +kernel) (by decide +kernel)), ⟨by decide +kernel, by decide +kernel⟩, by decide +kernel, by decide⟩, (am_gw 522 (by decide +kernel) (by decide +kernel)), (am_gw 523 (by decide +kernel) (by decide +kernel))⟩
theorem c_L_load {w : am_w} {h : AH} {o out d : Nat} {a0 : Int} {f : Int → Int} {S : Int → AH → Prop} {X : Nat → AH → Prop} (hE : AE w m_X8_load d [vr o, vi a0] h (am_or (am_int S) X)) (ho : am_ob h o 7) (hS : ∀ z h1, S z h1 → h1.1 out = some (102, 1, f, am_N)) (hX : ∀ k h1, X k h1 → k = 0) : AE w m_L_load (d + 1) [vr o, vi a0, vr out] h (am_int (fun z h2 => (z = 0 ∧ ∃ v h1, S v h1 ∧ h2 = am_set h1 out (102, 1, am_uI f 0 (am_wr v), am_N)) ∨ ∃ k, X k h2 ∧ z = 1)) := by
  refine AE.of wf_L_load (Nat.le_of_ble_eq_true rfl) am_ok_i ?_
  refine q_blk (lv2 := [(0, vr o), (1, vi a0), (2, vr out)]) (st2 := [vi a0, vr o, vi 0, vr out]) kL_load_0 rfl ?_
  refine AQ.callcVi (av := [vi a0]) (st := [vi 0, vr out]) hE lk_RL_7 (Nat.le_refl _) rfl rfl ho ⟨_, rfl, rfl⟩ (Nat.le_of_ble_eq_true rfl) eL_load_4 ?_ ?_
  · intro k h1 hx
    obtain rfl := hX k h1 hx
    refine ⟨1, AX.catchQ (name := "java/lang/IllegalArgumentException") [] _ _ rfl (fun z hz => by cases hz) rfl (by decide) (am_gw 525 (by decide +kernel) (by decide +kernel)) (am_nw 532 (by decide +kernel) (by decide +kernel)) (fun q => ?_), 1, rfl, Or.inr ⟨0, hx, rfl⟩⟩
    refine q_blk (lv2 := [(0, vr o), (1, vi a0), (2, vr out), (3, vr q)]) (st2 := [vi 1]) kL_load_12 rfl ?_
    exact q_ri rfl eL_load_14 ⟨rfl, rfl⟩
  · intro z h1 hs
    refine AQ.of (AS.i2lw eL_load_7) ?_
    refine q_ls eL_load_8 (hS z h1 hs) (by decide) (by decide) (fun h2 e2 => ?_)
    refine q_goto (tgt := 15) eL_load_9 (by decide) ?_
    refine q_blk (lv2 := [(0, vr o), (1, vi a0), (2, vr out)]) (st2 := [vi 0]) kL_load_15 rfl ?_
    exact q_ri rfl eL_load_16 ⟨0, rfl, Or.inl ⟨rfl, z, h1, hs, e2⟩⟩

theorem lk_L_count : am_lkW RL 104 m_L_count 3 := ⟨⟨wf_L_count, by decide, (am_gw 88 (by decide +kernel) (by decide +kernel)), ⟨by decide +kernel, by decide +kernel⟩, by decide +kernel, by decide⟩, (am_gw 916 (by decide +kernel) (by decide +kernel)), (am_gw 917 (by decide +kernel) (by decide +kernel))⟩
theorem c_L_count {w : am_w} {h : AH} {o out d : Nat} {a0 : Int} {f : Int → Int} {S : Int → AH → Prop} {X : Nat → AH → Prop} (hE : AE w m_X8_count d [vr o, vi a0] h (am_or (am_int S) X)) (ho : am_ob h o 7) (hS : ∀ z h1, S z h1 → h1.1 out = some (102, 1, f, am_N)) (hX : ∀ k h1, X k h1 → k = 0) : AE w m_L_count (d + 1) [vr o, vi a0, vr out] h (am_int (fun z h2 => (z = 0 ∧ ∃ v h1, S v h1 ∧ h2 = am_set h1 out (102, 1, am_uI f 0 (am_wr v), am_N)) ∨ ∃ k, X k h2 ∧ z = 1)) := by
  refine AE.of wf_L_count (Nat.le_of_ble_eq_true rfl) am_ok_i ?_
  refine q_blk (lv2 := [(0, vr o), (1, vi a0), (2, vr out)]) (st2 := [vi a0, vr o, vi 0, vr out]) kL_count_0 rfl ?_
  refine AQ.callcVi (av := [vi a0]) (st := [vi 0, vr out]) hE lk_RL_15 (Nat.le_refl _) rfl rfl ho ⟨_, rfl, rfl⟩ (Nat.le_of_ble_eq_true rfl) eL_count_4 ?_ ?_
  · intro k h1 hx
    obtain rfl := hX k h1 hx
    refine ⟨1, AX.catchQ (name := "java/lang/IllegalArgumentException") [] _ _ rfl (fun z hz => by cases hz) rfl (by decide) (am_gw 525 (by decide +kernel) (by decide +kernel)) (am_nw 532 (by decide +kernel) (by decide +kernel)) (fun q => ?_), 1, rfl, Or.inr ⟨0, hx, rfl⟩⟩
    refine q_blk (lv2 := [(0, vr o), (1, vi a0), (2, vr out), (3, vr q)]) (st2 := [vi 1]) kL_count_12 rfl ?_
    exact q_ri rfl eL_count_14 ⟨rfl, rfl⟩
  · intro z h1 hs
    refine AQ.of (AS.i2lw eL_count_7) ?_
    refine q_ls eL_count_8 (hS z h1 hs) (by decide) (by decide) (fun h2 e2 => ?_)
    refine q_goto (tgt := 15) eL_count_9 (by decide) ?_
    refine q_blk (lv2 := [(0, vr o), (1, vi a0), (2, vr out)]) (st2 := [vi 0]) kL_count_15 rfl ?_
    exact q_ri rfl eL_count_16 ⟨0, rfl, Or.inl ⟨rfl, z, h1, hs, e2⟩⟩

theorem lk_L_stone : am_lkW RL 107 m_L_stone 4 := ⟨⟨wf_L_stone, by decide, (am_gw 88 (by decide +kernel) (by decide +kernel)), ⟨by decide +kernel, by decide +kernel⟩, by decide +kernel, by decide⟩, (am_gw 932 (by decide +kernel) (by decide +kernel)), (am_gw 933 (by decide +kernel) (by decide +kernel))⟩
theorem c_L_stone {w : am_w} {h : AH} {o out d : Nat} {a0 a1 : Int} {f : Int → Int} {S : Int → AH → Prop} {X : Nat → AH → Prop} (hE : AE w m_X8_stone d [vr o, vi a0, vi a1] h (am_or (am_int S) X)) (ho : am_ob h o 7) (hS : ∀ z h1, S z h1 → h1.1 out = some (102, 1, f, am_N)) (hX : ∀ k h1, X k h1 → k = 1 ∨ k = 0) : AE w m_L_stone (d + 1) [vr o, vi a0, vi a1, vr out] h (am_int (fun z h2 => (z = 0 ∧ ∃ v h1, S v h1 ∧ h2 = am_set h1 out (102, 1, am_uI f 0 (am_wr v), am_N)) ∨ ∃ k, X k h2 ∧ z = if k = 1 then 1 else 2)) := by
  refine AE.of wf_L_stone (Nat.le_of_ble_eq_true rfl) am_ok_i ?_
  refine q_blk (lv2 := [(0, vr o), (1, vi a0), (2, vi a1), (3, vr out)]) (st2 := [vi a1, vi a0, vr o, vi 0, vr out]) kL_stone_0 rfl ?_
  refine AQ.callcVi (av := [vi a0, vi a1]) (st := [vi 0, vr out]) hE lk_RL_18 (Nat.le_refl _) rfl rfl ho ⟨_, rfl, rfl⟩ (Nat.le_of_ble_eq_true rfl) eL_stone_5 ?_ ?_
  · intro k h1 hx
    rcases hX k h1 hx with rfl | rfl
    · refine ⟨1, AX.catchQ (name := "java/util/NoSuchElementException") [] _ _ rfl (fun z hz => by cases hz) rfl (by decide) (am_gw 935 (by decide +kernel) (by decide +kernel)) (am_nw 942 (by decide +kernel) (by decide +kernel)) (fun q => ?_), 1, rfl, Or.inr ⟨1, hx, rfl⟩⟩
      refine q_blk (lv2 := [(0, vr o), (1, vi a0), (2, vi a1), (3, vr out), (4, vr q)]) (st2 := [vi 1]) kL_stone_13 rfl ?_
      exact q_ri rfl eL_stone_16 ⟨rfl, rfl⟩
    · refine ⟨2, AX.catchQ (name := "java/lang/IllegalArgumentException") [_] _ _ rfl (fun z hz => by
        obtain rfl := List.mem_singleton.mp hz
        exact Or.inr ⟨by decide, "java/util/NoSuchElementException", (am_gw 935 (by decide +kernel) (by decide +kernel)), by decide⟩) rfl (by decide) (am_gw 525 (by decide +kernel) (by decide +kernel)) (am_nw 532 (by decide +kernel) (by decide +kernel)) (fun q => ?_), 2, rfl, Or.inr ⟨0, hx, rfl⟩⟩
      refine q_blk (lv2 := [(0, vr o), (1, vi a0), (2, vi a1), (3, vr out), (4, vr q)]) (st2 := [vi 2]) kL_stone_17 rfl ?_
      exact q_ri rfl eL_stone_20 ⟨rfl, rfl⟩
  · intro z h1 hs
    refine AQ.of (AS.i2lw eL_stone_8) ?_
    refine q_ls eL_stone_9 (hS z h1 hs) (by decide) (by decide) (fun h2 e2 => ?_)
    refine q_goto (tgt := 21) eL_stone_10 (by decide) ?_
    refine q_blk (lv2 := [(0, vr o), (1, vi a0), (2, vi a1), (3, vr out)]) (st2 := [vi 0]) kL_stone_21 rfl ?_
    exact q_ri rfl eL_stone_22 ⟨0, rfl, Or.inl ⟨rfl, z, h1, hs, e2⟩⟩

theorem lk_L_polygon : am_lkW RL 111 m_L_polygon 4 := ⟨⟨wf_L_polygon, by decide, (am_gw 88 (by decide +kernel) (by decide +kernel)), ⟨by decide +kernel, by decide +kernel⟩, by decide +kernel, by decide⟩, (am_gw 960 (by decide +kernel) (by decide +kernel)), (am_gw 961 (by decide +kernel) (by decide +kernel))⟩
theorem c_L_polygon {w : am_w} {h : AH} {o out d : Nat} {a0 a1 : Int} {f : Int → Int} {S : Int → AH → Prop} {X : Nat → AH → Prop} (hE : AE w m_X8_polygon d [vr o, vi a0, vi a1] h (am_or (am_int S) X)) (ho : am_ob h o 7) (hS : ∀ z h1, S z h1 → h1.1 out = some (102, 1, f, am_N)) (hX : ∀ k h1, X k h1 → k = 2 ∨ k = 0) : AE w m_L_polygon (d + 1) [vr o, vi a0, vi a1, vr out] h (am_int (fun z h2 => (z = 0 ∧ ∃ v h1, S v h1 ∧ h2 = am_set h1 out (102, 1, am_uI f 0 (am_wr v), am_N)) ∨ ∃ k, X k h2 ∧ z = if k = 2 then 1 else 2)) := by
  refine AE.of wf_L_polygon (Nat.le_of_ble_eq_true rfl) am_ok_i ?_
  refine q_blk (lv2 := [(0, vr o), (1, vi a0), (2, vi a1), (3, vr out)]) (st2 := [vi a1, vi a0, vr o, vi 0, vr out]) kL_polygon_0 rfl ?_
  refine AQ.callcVi (av := [vi a0, vi a1]) (st := [vi 0, vr out]) hE lk_RL_24 (Nat.le_refl _) rfl rfl ho ⟨_, rfl, rfl⟩ (Nat.le_of_ble_eq_true rfl) eL_polygon_5 ?_ ?_
  · intro k h1 hx
    rcases hX k h1 hx with rfl | rfl
    · refine ⟨1, AX.catchQ (name := "java/lang/IndexOutOfBoundsException") [] _ _ rfl (fun z hz => by cases hz) rfl (by decide) (am_gw 963 (by decide +kernel) (by decide +kernel)) (am_nw 974 (by decide +kernel) (by decide +kernel)) (fun q => ?_), 1, rfl, Or.inr ⟨2, hx, rfl⟩⟩
      refine q_blk (lv2 := [(0, vr o), (1, vi a0), (2, vi a1), (3, vr out), (4, vr q)]) (st2 := [vi 1]) kL_polygon_13 rfl ?_
      exact q_ri rfl eL_polygon_16 ⟨rfl, rfl⟩
    · refine ⟨2, AX.catchQ (name := "java/lang/IllegalArgumentException") [_] _ _ rfl (fun z hz => by
        obtain rfl := List.mem_singleton.mp hz
        exact Or.inr ⟨by decide, "java/lang/IndexOutOfBoundsException", (am_gw 963 (by decide +kernel) (by decide +kernel)), by decide⟩) rfl (by decide) (am_gw 525 (by decide +kernel) (by decide +kernel)) (am_nw 532 (by decide +kernel) (by decide +kernel)) (fun q => ?_), 2, rfl, Or.inr ⟨0, hx, rfl⟩⟩
      refine q_blk (lv2 := [(0, vr o), (1, vi a0), (2, vi a1), (3, vr out), (4, vr q)]) (st2 := [vi 2]) kL_polygon_17 rfl ?_
      exact q_ri rfl eL_polygon_20 ⟨rfl, rfl⟩
  · intro z h1 hs
    refine AQ.of (AS.i2lw eL_polygon_8) ?_
    refine q_ls eL_polygon_9 (hS z h1 hs) (by decide) (by decide) (fun h2 e2 => ?_)
    refine q_goto (tgt := 21) eL_polygon_10 (by decide) ?_
    refine q_blk (lv2 := [(0, vr o), (1, vi a0), (2, vi a1), (3, vr out)]) (st2 := [vi 0]) kL_polygon_21 rfl ?_
    exact q_ri rfl eL_polygon_22 ⟨0, rfl, Or.inl ⟨rfl, z, h1, hs, e2⟩⟩

theorem lk_L_cornerAt : am_lkW RL 114 m_L_cornerAt 4 := ⟨⟨wf_L_cornerAt, by decide, (am_gw 88 (by decide +kernel) (by decide +kernel)), ⟨by decide +kernel, by decide +kernel⟩, by decide +kernel, by decide⟩, (am_gw 989 (by decide +kernel) (by decide +kernel)), (am_gw 990 (by decide +kernel) (by decide +kernel))⟩
theorem c_L_cornerAt {w : am_w} {h : AH} {o out d : Nat} {a0 a1 : Int} {f : Int → Int} {S : Int → AH → Prop} {X : Nat → AH → Prop} (hE : AE w m_X8_cornerAt d [vr o, vi a0, vi a1] h (am_or (am_int S) X)) (ho : am_ob h o 7) (hS : ∀ z h1, S z h1 → h1.1 out = some (102, 1, f, am_N)) (hX : ∀ k h1, X k h1 → k = 2 ∨ k = 1) : AE w m_L_cornerAt (d + 1) [vr o, vi a0, vi a1, vr out] h (am_int (fun z h2 => (z = 0 ∧ ∃ v h1, S v h1 ∧ h2 = am_set h1 out (102, 1, am_uI f 0 (am_wr v), am_N)) ∨ ∃ k, X k h2 ∧ z = if k = 2 then 1 else 2)) := by
  refine AE.of wf_L_cornerAt (Nat.le_of_ble_eq_true rfl) am_ok_i ?_
  refine q_blk (lv2 := [(0, vr o), (1, vi a0), (2, vi a1), (3, vr out)]) (st2 := [vi a1, vi a0, vr o, vi 0, vr out]) kL_cornerAt_0 rfl ?_
  refine AQ.callcVi (av := [vi a0, vi a1]) (st := [vi 0, vr out]) hE lk_RL_29 (Nat.le_refl _) rfl rfl ho ⟨_, rfl, rfl⟩ (Nat.le_of_ble_eq_true rfl) eL_cornerAt_5 ?_ ?_
  · intro k h1 hx
    rcases hX k h1 hx with rfl | rfl
    · refine ⟨1, AX.catchQ (name := "java/lang/IndexOutOfBoundsException") [] _ _ rfl (fun z hz => by cases hz) rfl (by decide) (am_gw 963 (by decide +kernel) (by decide +kernel)) (am_nw 974 (by decide +kernel) (by decide +kernel)) (fun q => ?_), 1, rfl, Or.inr ⟨2, hx, rfl⟩⟩
      refine q_blk (lv2 := [(0, vr o), (1, vi a0), (2, vi a1), (3, vr out), (4, vr q)]) (st2 := [vi 1]) kL_cornerAt_13 rfl ?_
      exact q_ri rfl eL_cornerAt_16 ⟨rfl, rfl⟩
    · refine ⟨2, AX.catchQ (name := "java/util/NoSuchElementException") [_] _ _ rfl (fun z hz => by
        obtain rfl := List.mem_singleton.mp hz
        exact Or.inr ⟨by decide, "java/lang/IndexOutOfBoundsException", (am_gw 963 (by decide +kernel) (by decide +kernel)), by decide⟩) rfl (by decide) (am_gw 935 (by decide +kernel) (by decide +kernel)) (am_nw 942 (by decide +kernel) (by decide +kernel)) (fun q => ?_), 2, rfl, Or.inr ⟨1, hx, rfl⟩⟩
      refine q_blk (lv2 := [(0, vr o), (1, vi a0), (2, vi a1), (3, vr out), (4, vr q)]) (st2 := [vi 2]) kL_cornerAt_17 rfl ?_
      exact q_ri rfl eL_cornerAt_20 ⟨rfl, rfl⟩
  · intro z h1 hs
    refine AQ.of (AS.i2lw eL_cornerAt_8) ?_
    refine q_ls eL_cornerAt_9 (hS z h1 hs) (by decide) (by decide) (fun h2 e2 => ?_)
    refine q_goto (tgt := 21) eL_cornerAt_10 (by decide) ?_
    refine q_blk (lv2 := [(0, vr o), (1, vi a0), (2, vi a1), (3, vr out)]) (st2 := [vi 0]) kL_cornerAt_21 rfl ?_
    exact q_ri rfl eL_cornerAt_22 ⟨0, rfl, Or.inl ⟨rfl, z, h1, hs, e2⟩⟩

theorem lk_L_reason : am_lkW RL 117 m_L_reason 5 := ⟨⟨wf_L_reason, by decide, (am_gw 88 (by decide +kernel) (by decide +kernel)), ⟨by decide +kernel, by decide +kernel⟩, by decide +kernel, by decide⟩, (am_gw 1001 (by decide +kernel) (by decide +kernel)), (am_gw 1002 (by decide +kernel) (by decide +kernel))⟩
theorem c_L_reason {w : am_w} {h : AH} {o out d : Nat} {a0 a1 a2 : Int} {f : Int → Int} {S : Int → AH → Prop} {X : Nat → AH → Prop} (hE : AE w m_X8_reason d [vr o, vi a0, vi a1, vi a2] h (am_or (am_int S) X)) (ho : am_ob h o 7) (hS : ∀ z h1, S z h1 → h1.1 out = some (102, 1, f, am_N)) (hX : ∀ k h1, X k h1 → k = 2 ∨ k = 0) : AE w m_L_reason (d + 1) [vr o, vi a0, vi a1, vi a2, vr out] h (am_int (fun z h2 => (z = 0 ∧ ∃ v h1, S v h1 ∧ h2 = am_set h1 out (102, 1, am_uI f 0 (am_wr v), am_N)) ∨ ∃ k, X k h2 ∧ z = if k = 2 then 1 else 2)) := by
  refine AE.of wf_L_reason (Nat.le_of_ble_eq_true rfl) am_ok_i ?_
  refine q_blk (lv2 := [(0, vr o), (1, vi a0), (2, vi a1), (3, vi a2), (4, vr out)]) (st2 := [vi a2, vi a1, vi a0, vr o, vi 0, vr out]) kL_reason_0 rfl ?_
  refine AQ.callcVi (av := [vi a0, vi a1, vi a2]) (st := [vi 0, vr out]) hE lk_RL_32 (Nat.le_refl _) rfl rfl ho ⟨_, rfl, rfl⟩ (Nat.le_of_ble_eq_true rfl) eL_reason_7 ?_ ?_
  · intro k h1 hx
    rcases hX k h1 hx with rfl | rfl
    · refine ⟨1, AX.catchQ (name := "java/lang/IndexOutOfBoundsException") [] _ _ rfl (fun z hz => by cases hz) rfl (by decide) (am_gw 963 (by decide +kernel) (by decide +kernel)) (am_nw 974 (by decide +kernel) (by decide +kernel)) (fun q => ?_), 1, rfl, Or.inr ⟨2, hx, rfl⟩⟩
      refine q_blk (lv2 := [(0, vr o), (1, vi a0), (2, vi a1), (3, vi a2), (4, vr out), (5, vr q)]) (st2 := [vi 1]) kL_reason_15 rfl ?_
      exact q_ri rfl eL_reason_18 ⟨rfl, rfl⟩
    · refine ⟨2, AX.catchQ (name := "java/lang/IllegalArgumentException") [_] _ _ rfl (fun z hz => by
        obtain rfl := List.mem_singleton.mp hz
        exact Or.inr ⟨by decide, "java/lang/IndexOutOfBoundsException", (am_gw 963 (by decide +kernel) (by decide +kernel)), by decide⟩) rfl (by decide) (am_gw 525 (by decide +kernel) (by decide +kernel)) (am_nw 532 (by decide +kernel) (by decide +kernel)) (fun q => ?_), 2, rfl, Or.inr ⟨0, hx, rfl⟩⟩
      refine q_blk (lv2 := [(0, vr o), (1, vi a0), (2, vi a1), (3, vi a2), (4, vr out), (5, vr q)]) (st2 := [vi 2]) kL_reason_19 rfl ?_
      exact q_ri rfl eL_reason_22 ⟨rfl, rfl⟩
  · intro z h1 hs
    refine AQ.of (AS.i2lw eL_reason_10) ?_
    refine q_ls eL_reason_11 (hS z h1 hs) (by decide) (by decide) (fun h2 e2 => ?_)
    refine q_goto (tgt := 23) eL_reason_12 (by decide) ?_
    refine q_blk (lv2 := [(0, vr o), (1, vi a0), (2, vi a1), (3, vi a2), (4, vr out)]) (st2 := [vi 0]) kL_reason_23 rfl ?_
    exact q_ri rfl eL_reason_24 ⟨0, rfl, Or.inl ⟨rfl, z, h1, hs, e2⟩⟩

theorem lk_L_where : am_lkW RL 121 m_L_where 5 := ⟨⟨wf_L_where, by decide, (am_gw 88 (by decide +kernel) (by decide +kernel)), ⟨by decide +kernel, by decide +kernel⟩, by decide +kernel, by decide⟩, (am_gw 1014 (by decide +kernel) (by decide +kernel)), (am_gw 1015 (by decide +kernel) (by decide +kernel))⟩
theorem c_L_where {w : am_w} {h : AH} {o out d : Nat} {a0 a1 a2 : Int} {f : Int → Int} {S : Int → AH → Prop} {X : Nat → AH → Prop} (hE : AE w m_X8_where d [vr o, vi a0, vi a1, vi a2] h (am_or (am_int S) X)) (ho : am_ob h o 7) (hS : ∀ z h1, S z h1 → h1.1 out = some (102, 1, f, am_N)) (hX : ∀ k h1, X k h1 → k = 2 ∨ k = 0 ∨ k = 3) : AE w m_L_where (d + 1) [vr o, vi a0, vi a1, vi a2, vr out] h (am_int (fun z h2 => (z = 0 ∧ ∃ v h1, S v h1 ∧ h2 = am_set h1 out (102, 1, am_uI f 0 (am_wr v), am_N)) ∨ ∃ k, X k h2 ∧ z = if k = 2 then 1 else if k = 0 then 2 else 3)) := by
  refine AE.of wf_L_where (Nat.le_of_ble_eq_true rfl) am_ok_i ?_
  refine q_blk (lv2 := [(0, vr o), (1, vi a0), (2, vi a1), (3, vi a2), (4, vr out)]) (st2 := [vi a2, vi a1, vi a0, vr o, vi 0, vr out]) kL_where_0 rfl ?_
  refine AQ.callcVi (av := [vi a0, vi a1, vi a2]) (st := [vi 0, vr out]) hE lk_RL_36 (Nat.le_refl _) rfl rfl ho ⟨_, rfl, rfl⟩ (Nat.le_of_ble_eq_true rfl) eL_where_7 ?_ ?_
  · intro k h1 hx
    rcases hX k h1 hx with rfl | rfl | rfl
    · refine ⟨1, AX.catchQ (name := "java/lang/IndexOutOfBoundsException") [] _ _ rfl (fun z hz => by cases hz) rfl (by decide) (am_gw 963 (by decide +kernel) (by decide +kernel)) (am_nw 974 (by decide +kernel) (by decide +kernel)) (fun q => ?_), 1, rfl, Or.inr ⟨2, hx, rfl⟩⟩
      refine q_blk (lv2 := [(0, vr o), (1, vi a0), (2, vi a1), (3, vi a2), (4, vr out), (5, vr q)]) (st2 := [vi 1]) kL_where_15 rfl ?_
      exact q_ri rfl eL_where_18 ⟨rfl, rfl⟩
    · refine ⟨2, AX.catchQ (name := "java/lang/IllegalArgumentException") [_] _ _ rfl (fun z hz => by
        obtain rfl := List.mem_singleton.mp hz
        exact Or.inr ⟨by decide, "java/lang/IndexOutOfBoundsException", (am_gw 963 (by decide +kernel) (by decide +kernel)), by decide⟩) rfl (by decide) (am_gw 525 (by decide +kernel) (by decide +kernel)) (am_nw 532 (by decide +kernel) (by decide +kernel)) (fun q => ?_), 2, rfl, Or.inr ⟨0, hx, rfl⟩⟩
      refine q_blk (lv2 := [(0, vr o), (1, vi a0), (2, vi a1), (3, vi a2), (4, vr out), (5, vr q)]) (st2 := [vi 2]) kL_where_19 rfl ?_
      exact q_ri rfl eL_where_22 ⟨rfl, rfl⟩
    · refine ⟨3, AX.catchQ (name := "java/lang/IllegalStateException") [_, _] _ _ rfl (fun z hz => by
        rcases List.mem_cons.mp hz with rfl | hz
        · exact Or.inr ⟨by decide, "java/lang/IndexOutOfBoundsException", (am_gw 963 (by decide +kernel) (by decide +kernel)), by decide⟩
        · obtain rfl := List.mem_singleton.mp hz
          exact Or.inr ⟨by decide, "java/lang/IllegalArgumentException", (am_gw 525 (by decide +kernel) (by decide +kernel)), by decide⟩) rfl (by decide) (am_gw 1017 (by decide +kernel) (by decide +kernel)) (am_nw 1028 (by decide +kernel) (by decide +kernel)) (fun q => ?_), 3, rfl, Or.inr ⟨3, hx, rfl⟩⟩
      refine q_blk (lv2 := [(0, vr o), (1, vi a0), (2, vi a1), (3, vi a2), (4, vr out), (5, vr q)]) (st2 := [vi 3]) kL_where_23 rfl ?_
      exact q_ri rfl eL_where_26 ⟨rfl, rfl⟩
  · intro z h1 hs
    refine AQ.of (AS.i2lw eL_where_10) ?_
    refine q_ls eL_where_11 (hS z h1 hs) (by decide) (by decide) (fun h2 e2 => ?_)
    refine q_goto (tgt := 27) eL_where_12 (by decide) ?_
    refine q_blk (lv2 := [(0, vr o), (1, vi a0), (2, vi a1), (3, vi a2), (4, vr out)]) (st2 := [vi 0]) kL_where_27 rfl ?_
    exact q_ri rfl eL_where_28 ⟨0, rfl, Or.inl ⟨rfl, z, h1, hs, e2⟩⟩

theorem lk_L_area : am_lkW RL 124 m_L_area 3 := ⟨⟨wf_L_area, by decide, (am_gw 88 (by decide +kernel) (by decide +kernel)), ⟨by decide +kernel, by decide +kernel⟩, by decide +kernel, by decide⟩, (am_gw 1043 (by decide +kernel) (by decide +kernel)), (am_gw 1044 (by decide +kernel) (by decide +kernel))⟩
theorem c_L_area {w : am_w} {h : AH} {o out d : Nat} {a0 : Int} {f : Int → Int} {S : Int → AH → Prop} {X : Nat → AH → Prop} (hE : AE w m_X8_area d [vr o, vi a0] h (am_or (am_int S) X)) (ho : am_ob h o 7) (hS : ∀ z h1, S z h1 → h1.1 out = some (102, 1, f, am_N)) (hX : ∀ k h1, X k h1 → k = 2 ∨ k = 3) : AE w m_L_area (d + 1) [vr o, vi a0, vr out] h (am_int (fun z h2 => (z = 0 ∧ ∃ v h1, S v h1 ∧ h2 = am_set h1 out (102, 1, am_uI f 0 (am_wr v), am_N)) ∨ ∃ k, X k h2 ∧ z = if k = 2 then 1 else 2)) := by
  refine AE.of wf_L_area (Nat.le_of_ble_eq_true rfl) am_ok_i ?_
  refine q_blk (lv2 := [(0, vr o), (1, vi a0), (2, vr out)]) (st2 := [vi a0, vr o, vi 0, vr out]) kL_area_0 rfl ?_
  refine AQ.callcVi (av := [vi a0]) (st := [vi 0, vr out]) hE lk_RL_41 (Nat.le_refl _) rfl rfl ho ⟨_, rfl, rfl⟩ (Nat.le_of_ble_eq_true rfl) eL_area_4 ?_ ?_
  · intro k h1 hx
    rcases hX k h1 hx with rfl | rfl
    · refine ⟨1, AX.catchQ (name := "java/lang/IndexOutOfBoundsException") [] _ _ rfl (fun z hz => by cases hz) rfl (by decide) (am_gw 963 (by decide +kernel) (by decide +kernel)) (am_nw 974 (by decide +kernel) (by decide +kernel)) (fun q => ?_), 1, rfl, Or.inr ⟨2, hx, rfl⟩⟩
      refine q_blk (lv2 := [(0, vr o), (1, vi a0), (2, vr out), (3, vr q)]) (st2 := [vi 1]) kL_area_12 rfl ?_
      exact q_ri rfl eL_area_14 ⟨rfl, rfl⟩
    · refine ⟨2, AX.catchQ (name := "java/lang/IllegalStateException") [_] _ _ rfl (fun z hz => by
        obtain rfl := List.mem_singleton.mp hz
        exact Or.inr ⟨by decide, "java/lang/IndexOutOfBoundsException", (am_gw 963 (by decide +kernel) (by decide +kernel)), by decide⟩) rfl (by decide) (am_gw 1017 (by decide +kernel) (by decide +kernel)) (am_nw 1028 (by decide +kernel) (by decide +kernel)) (fun q => ?_), 2, rfl, Or.inr ⟨3, hx, rfl⟩⟩
      refine q_blk (lv2 := [(0, vr o), (1, vi a0), (2, vr out), (3, vr q)]) (st2 := [vi 2]) kL_area_15 rfl ?_
      exact q_ri rfl eL_area_17 ⟨rfl, rfl⟩
  · intro z h1 hs
    refine AQ.of (AS.i2lw eL_area_7) ?_
    refine q_ls eL_area_8 (hS z h1 hs) (by decide) (by decide) (fun h2 e2 => ?_)
    refine q_goto (tgt := 18) eL_area_9 (by decide) ?_
    refine q_blk (lv2 := [(0, vr o), (1, vi a0), (2, vr out)]) (st2 := [vi 0]) kL_area_18 rfl ?_
    exact q_ri rfl eL_area_19 ⟨0, rfl, Or.inl ⟨rfl, z, h1, hs, e2⟩⟩

theorem lk_L_border : am_lkW RL 127 m_L_border 3 := ⟨⟨wf_L_border, by decide, (am_gw 88 (by decide +kernel) (by decide +kernel)), ⟨by decide +kernel, by decide +kernel⟩, by decide +kernel, by decide⟩, (am_gw 1051 (by decide +kernel) (by decide +kernel)), (am_gw 1052 (by decide +kernel) (by decide +kernel))⟩
theorem c_L_border {w : am_w} {h : AH} {o out d : Nat} {a0 : Int} {f : Int → Int} {S : Int → AH → Prop} {X : Nat → AH → Prop} (hE : AE w m_X8_border d [vr o, vi a0] h (am_or (am_int S) X)) (ho : am_ob h o 7) (hS : ∀ z h1, S z h1 → h1.1 out = some (102, 1, f, am_N)) (hX : ∀ k h1, X k h1 → k = 2 ∨ k = 3) : AE w m_L_border (d + 1) [vr o, vi a0, vr out] h (am_int (fun z h2 => (z = 0 ∧ ∃ v h1, S v h1 ∧ h2 = am_set h1 out (102, 1, am_uI f 0 (am_wr v), am_N)) ∨ ∃ k, X k h2 ∧ z = if k = 2 then 1 else 2)) := by
  refine AE.of wf_L_border (Nat.le_of_ble_eq_true rfl) am_ok_i ?_
  refine q_blk (lv2 := [(0, vr o), (1, vi a0), (2, vr out)]) (st2 := [vi a0, vr o, vi 0, vr out]) kL_border_0 rfl ?_
  refine AQ.callcVi (av := [vi a0]) (st := [vi 0, vr out]) hE lk_RL_44 (Nat.le_refl _) rfl rfl ho ⟨_, rfl, rfl⟩ (Nat.le_of_ble_eq_true rfl) eL_border_4 ?_ ?_
  · intro k h1 hx
    rcases hX k h1 hx with rfl | rfl
    · refine ⟨1, AX.catchQ (name := "java/lang/IndexOutOfBoundsException") [] _ _ rfl (fun z hz => by cases hz) rfl (by decide) (am_gw 963 (by decide +kernel) (by decide +kernel)) (am_nw 974 (by decide +kernel) (by decide +kernel)) (fun q => ?_), 1, rfl, Or.inr ⟨2, hx, rfl⟩⟩
      refine q_blk (lv2 := [(0, vr o), (1, vi a0), (2, vr out), (3, vr q)]) (st2 := [vi 1]) kL_border_12 rfl ?_
      exact q_ri rfl eL_border_14 ⟨rfl, rfl⟩
    · refine ⟨2, AX.catchQ (name := "java/lang/IllegalStateException") [_] _ _ rfl (fun z hz => by
        obtain rfl := List.mem_singleton.mp hz
        exact Or.inr ⟨by decide, "java/lang/IndexOutOfBoundsException", (am_gw 963 (by decide +kernel) (by decide +kernel)), by decide⟩) rfl (by decide) (am_gw 1017 (by decide +kernel) (by decide +kernel)) (am_nw 1028 (by decide +kernel) (by decide +kernel)) (fun q => ?_), 2, rfl, Or.inr ⟨3, hx, rfl⟩⟩
      refine q_blk (lv2 := [(0, vr o), (1, vi a0), (2, vr out), (3, vr q)]) (st2 := [vi 2]) kL_border_15 rfl ?_
      exact q_ri rfl eL_border_17 ⟨rfl, rfl⟩
  · intro z h1 hs
    refine AQ.of (AS.i2lw eL_border_7) ?_
    refine q_ls eL_border_8 (hS z h1 hs) (by decide) (by decide) (fun h2 e2 => ?_)
    refine q_goto (tgt := 18) eL_border_9 (by decide) ?_
    refine q_blk (lv2 := [(0, vr o), (1, vi a0), (2, vr out)]) (st2 := [vi 0]) kL_border_18 rfl ?_
    exact q_ri rfl eL_border_19 ⟨0, rfl, Or.inl ⟨rfl, z, h1, hs, e2⟩⟩

theorem lk_L_inner : am_lkW RL 130 m_L_inner 3 := ⟨⟨wf_L_inner, by decide, (am_gw 88 (by decide +kernel) (by decide +kernel)), ⟨by decide +kernel, by decide +kernel⟩, by decide +kernel, by decide⟩, (am_gw 1059 (by decide +kernel) (by decide +kernel)), (am_gw 1060 (by decide +kernel) (by decide +kernel))⟩
theorem c_L_inner {w : am_w} {h : AH} {o out d : Nat} {a0 : Int} {f : Int → Int} {S : Int → AH → Prop} {X : Nat → AH → Prop} (hE : AE w m_X8_inner d [vr o, vi a0] h (am_or (am_int S) X)) (ho : am_ob h o 7) (hS : ∀ z h1, S z h1 → h1.1 out = some (102, 1, f, am_N)) (hX : ∀ k h1, X k h1 → k = 2 ∨ k = 3) : AE w m_L_inner (d + 1) [vr o, vi a0, vr out] h (am_int (fun z h2 => (z = 0 ∧ ∃ v h1, S v h1 ∧ h2 = am_set h1 out (102, 1, am_uI f 0 (am_wr v), am_N)) ∨ ∃ k, X k h2 ∧ z = if k = 2 then 1 else 2)) := by
  refine AE.of wf_L_inner (Nat.le_of_ble_eq_true rfl) am_ok_i ?_
  refine q_blk (lv2 := [(0, vr o), (1, vi a0), (2, vr out)]) (st2 := [vi a0, vr o, vi 0, vr out]) kL_inner_0 rfl ?_
  refine AQ.callcVi (av := [vi a0]) (st := [vi 0, vr out]) hE lk_RL_47 (Nat.le_refl _) rfl rfl ho ⟨_, rfl, rfl⟩ (Nat.le_of_ble_eq_true rfl) eL_inner_4 ?_ ?_
  · intro k h1 hx
    rcases hX k h1 hx with rfl | rfl
    · refine ⟨1, AX.catchQ (name := "java/lang/IndexOutOfBoundsException") [] _ _ rfl (fun z hz => by cases hz) rfl (by decide) (am_gw 963 (by decide +kernel) (by decide +kernel)) (am_nw 974 (by decide +kernel) (by decide +kernel)) (fun q => ?_), 1, rfl, Or.inr ⟨2, hx, rfl⟩⟩
      refine q_blk (lv2 := [(0, vr o), (1, vi a0), (2, vr out), (3, vr q)]) (st2 := [vi 1]) kL_inner_12 rfl ?_
      exact q_ri rfl eL_inner_14 ⟨rfl, rfl⟩
    · refine ⟨2, AX.catchQ (name := "java/lang/IllegalStateException") [_] _ _ rfl (fun z hz => by
        obtain rfl := List.mem_singleton.mp hz
        exact Or.inr ⟨by decide, "java/lang/IndexOutOfBoundsException", (am_gw 963 (by decide +kernel) (by decide +kernel)), by decide⟩) rfl (by decide) (am_gw 1017 (by decide +kernel) (by decide +kernel)) (am_nw 1028 (by decide +kernel) (by decide +kernel)) (fun q => ?_), 2, rfl, Or.inr ⟨3, hx, rfl⟩⟩
      refine q_blk (lv2 := [(0, vr o), (1, vi a0), (2, vr out), (3, vr q)]) (st2 := [vi 2]) kL_inner_15 rfl ?_
      exact q_ri rfl eL_inner_17 ⟨rfl, rfl⟩
  · intro z h1 hs
    refine AQ.of (AS.i2lw eL_inner_7) ?_
    refine q_ls eL_inner_8 (hS z h1 hs) (by decide) (by decide) (fun h2 e2 => ?_)
    refine q_goto (tgt := 18) eL_inner_9 (by decide) ?_
    refine q_blk (lv2 := [(0, vr o), (1, vi a0), (2, vr out)]) (st2 := [vi 0]) kL_inner_18 rfl ?_
    exact q_ri rfl eL_inner_19 ⟨0, rfl, Or.inl ⟨rfl, z, h1, hs, e2⟩⟩

theorem lk_L_dents : am_lkW RL 133 m_L_dents 3 := ⟨⟨wf_L_dents, by decide, (am_gw 88 (by decide +kernel) (by decide +kernel)), ⟨by decide +kernel, by decide +kernel⟩, by decide +kernel, by decide⟩, (am_gw 1067 (by decide +kernel) (by decide +kernel)), (am_gw 1068 (by decide +kernel) (by decide +kernel))⟩
theorem c_L_dents {w : am_w} {h : AH} {o out d : Nat} {a0 : Int} {f : Int → Int} {S : Int → AH → Prop} {X : Nat → AH → Prop} (hE : AE w m_X8_dents d [vr o, vi a0] h (am_or (am_int S) X)) (ho : am_ob h o 7) (hS : ∀ z h1, S z h1 → h1.1 out = some (102, 1, f, am_N)) (hX : ∀ k h1, X k h1 → k = 2 ∨ k = 3) : AE w m_L_dents (d + 1) [vr o, vi a0, vr out] h (am_int (fun z h2 => (z = 0 ∧ ∃ v h1, S v h1 ∧ h2 = am_set h1 out (102, 1, am_uI f 0 (am_wr v), am_N)) ∨ ∃ k, X k h2 ∧ z = if k = 2 then 1 else 2)) := by
  refine AE.of wf_L_dents (Nat.le_of_ble_eq_true rfl) am_ok_i ?_
  refine q_blk (lv2 := [(0, vr o), (1, vi a0), (2, vr out)]) (st2 := [vi a0, vr o, vi 0, vr out]) kL_dents_0 rfl ?_
  refine AQ.callcVi (av := [vi a0]) (st := [vi 0, vr out]) hE lk_RL_50 (Nat.le_refl _) rfl rfl ho ⟨_, rfl, rfl⟩ (Nat.le_of_ble_eq_true rfl) eL_dents_4 ?_ ?_
  · intro k h1 hx
    rcases hX k h1 hx with rfl | rfl
    · refine ⟨1, AX.catchQ (name := "java/lang/IndexOutOfBoundsException") [] _ _ rfl (fun z hz => by cases hz) rfl (by decide) (am_gw 963 (by decide +kernel) (by decide +kernel)) (am_nw 974 (by decide +kernel) (by decide +kernel)) (fun q => ?_), 1, rfl, Or.inr ⟨2, hx, rfl⟩⟩
      refine q_blk (lv2 := [(0, vr o), (1, vi a0), (2, vr out), (3, vr q)]) (st2 := [vi 1]) kL_dents_12 rfl ?_
      exact q_ri rfl eL_dents_14 ⟨rfl, rfl⟩
    · refine ⟨2, AX.catchQ (name := "java/lang/IllegalStateException") [_] _ _ rfl (fun z hz => by
        obtain rfl := List.mem_singleton.mp hz
        exact Or.inr ⟨by decide, "java/lang/IndexOutOfBoundsException", (am_gw 963 (by decide +kernel) (by decide +kernel)), by decide⟩) rfl (by decide) (am_gw 1017 (by decide +kernel) (by decide +kernel)) (am_nw 1028 (by decide +kernel) (by decide +kernel)) (fun q => ?_), 2, rfl, Or.inr ⟨3, hx, rfl⟩⟩
      refine q_blk (lv2 := [(0, vr o), (1, vi a0), (2, vr out), (3, vr q)]) (st2 := [vi 2]) kL_dents_15 rfl ?_
      exact q_ri rfl eL_dents_17 ⟨rfl, rfl⟩
  · intro z h1 hs
    refine AQ.of (AS.i2lw eL_dents_7) ?_
    refine q_ls eL_dents_8 (hS z h1 hs) (by decide) (by decide) (fun h2 e2 => ?_)
    refine q_goto (tgt := 18) eL_dents_9 (by decide) ?_
    refine q_blk (lv2 := [(0, vr o), (1, vi a0), (2, vr out)]) (st2 := [vi 0]) kL_dents_18 rfl ?_
    exact q_ri rfl eL_dents_19 ⟨0, rfl, Or.inl ⟨rfl, z, h1, hs, e2⟩⟩

theorem lk_L_parent : am_lkW RL 136 m_L_parent 3 := ⟨⟨wf_L_parent, by decide, (am_gw 88 (by decide +kernel) (by decide +kernel)), ⟨by decide +kernel, by decide +kernel⟩, by decide +kernel, by decide⟩, (am_gw 1075 (by decide +kernel) (by decide +kernel)), (am_gw 1076 (by decide +kernel) (by decide +kernel))⟩
theorem c_L_parent {w : am_w} {h : AH} {o out d : Nat} {a0 : Int} {f : Int → Int} {S : Int → AH → Prop} {X : Nat → AH → Prop} (hE : AE w m_X8_parent d [vr o, vi a0] h (am_or (am_int S) X)) (ho : am_ob h o 7) (hS : ∀ z h1, S z h1 → h1.1 out = some (102, 1, f, am_N)) (hX : ∀ k h1, X k h1 → k = 2 ∨ k = 3) : AE w m_L_parent (d + 1) [vr o, vi a0, vr out] h (am_int (fun z h2 => (z = 0 ∧ ∃ v h1, S v h1 ∧ h2 = am_set h1 out (102, 1, am_uI f 0 (am_wr v), am_N)) ∨ ∃ k, X k h2 ∧ z = if k = 2 then 1 else 2)) := by
  refine AE.of wf_L_parent (Nat.le_of_ble_eq_true rfl) am_ok_i ?_
  refine q_blk (lv2 := [(0, vr o), (1, vi a0), (2, vr out)]) (st2 := [vi a0, vr o, vi 0, vr out]) kL_parent_0 rfl ?_
  refine AQ.callcVi (av := [vi a0]) (st := [vi 0, vr out]) hE lk_RL_53 (Nat.le_refl _) rfl rfl ho ⟨_, rfl, rfl⟩ (Nat.le_of_ble_eq_true rfl) eL_parent_4 ?_ ?_
  · intro k h1 hx
    rcases hX k h1 hx with rfl | rfl
    · refine ⟨1, AX.catchQ (name := "java/lang/IndexOutOfBoundsException") [] _ _ rfl (fun z hz => by cases hz) rfl (by decide) (am_gw 963 (by decide +kernel) (by decide +kernel)) (am_nw 974 (by decide +kernel) (by decide +kernel)) (fun q => ?_), 1, rfl, Or.inr ⟨2, hx, rfl⟩⟩
      refine q_blk (lv2 := [(0, vr o), (1, vi a0), (2, vr out), (3, vr q)]) (st2 := [vi 1]) kL_parent_12 rfl ?_
      exact q_ri rfl eL_parent_14 ⟨rfl, rfl⟩
    · refine ⟨2, AX.catchQ (name := "java/lang/IllegalStateException") [_] _ _ rfl (fun z hz => by
        obtain rfl := List.mem_singleton.mp hz
        exact Or.inr ⟨by decide, "java/lang/IndexOutOfBoundsException", (am_gw 963 (by decide +kernel) (by decide +kernel)), by decide⟩) rfl (by decide) (am_gw 1017 (by decide +kernel) (by decide +kernel)) (am_nw 1028 (by decide +kernel) (by decide +kernel)) (fun q => ?_), 2, rfl, Or.inr ⟨3, hx, rfl⟩⟩
      refine q_blk (lv2 := [(0, vr o), (1, vi a0), (2, vr out), (3, vr q)]) (st2 := [vi 2]) kL_parent_15 rfl ?_
      exact q_ri rfl eL_parent_17 ⟨rfl, rfl⟩
  · intro z h1 hs
    refine AQ.of (AS.i2lw eL_parent_7) ?_
    refine q_ls eL_parent_8 (hS z h1 hs) (by decide) (by decide) (fun h2 e2 => ?_)
    refine q_goto (tgt := 18) eL_parent_9 (by decide) ?_
    refine q_blk (lv2 := [(0, vr o), (1, vi a0), (2, vr out)]) (st2 := [vi 0]) kL_parent_18 rfl ?_
    exact q_ri rfl eL_parent_19 ⟨0, rfl, Or.inl ⟨rfl, z, h1, hs, e2⟩⟩

theorem lk_L_score : am_lkW RL 139 m_L_score 3 := ⟨⟨wf_L_score, by decide, (am_gw 88 (by decide +kernel) (by decide +kernel)), ⟨by decide +kernel, by decide +kernel⟩, by decide +kernel, by decide⟩, (am_gw 1085 (by decide +kernel) (by decide +kernel)), (am_gw 1086 (by decide +kernel) (by decide +kernel))⟩
theorem c_L_score {w : am_w} {h : AH} {o out d : Nat} {a0 : Int} {f : Int → Int} {S : Int → AH → Prop} {X : Nat → AH → Prop} (hE : AE w m_X8_score d [vr o, vi a0] h (am_or (am_int S) X)) (ho : am_ob h o 7) (hS : ∀ z h1, S z h1 → h1.1 out = some (102, 1, f, am_N)) (hX : ∀ k h1, X k h1 → k = 2 ∨ k = 3) : AE w m_L_score (d + 1) [vr o, vi a0, vr out] h (am_int (fun z h2 => (z = 0 ∧ ∃ v h1, S v h1 ∧ h2 = am_set h1 out (102, 1, am_uI f 0 (am_wr v), am_N)) ∨ ∃ k, X k h2 ∧ z = if k = 2 then 1 else 2)) := by
  refine AE.of wf_L_score (Nat.le_of_ble_eq_true rfl) am_ok_i ?_
  refine q_blk (lv2 := [(0, vr o), (1, vi a0), (2, vr out)]) (st2 := [vi a0, vr o, vi 0, vr out]) kL_score_0 rfl ?_
  refine AQ.callcVi (av := [vi a0]) (st := [vi 0, vr out]) hE lk_RL_56 (Nat.le_refl _) rfl rfl ho ⟨_, rfl, rfl⟩ (Nat.le_of_ble_eq_true rfl) eL_score_4 ?_ ?_
  · intro k h1 hx
    rcases hX k h1 hx with rfl | rfl
    · refine ⟨1, AX.catchQ (name := "java/lang/IndexOutOfBoundsException") [] _ _ rfl (fun z hz => by cases hz) rfl (by decide) (am_gw 963 (by decide +kernel) (by decide +kernel)) (am_nw 974 (by decide +kernel) (by decide +kernel)) (fun q => ?_), 1, rfl, Or.inr ⟨2, hx, rfl⟩⟩
      refine q_blk (lv2 := [(0, vr o), (1, vi a0), (2, vr out), (3, vr q)]) (st2 := [vi 1]) kL_score_12 rfl ?_
      exact q_ri rfl eL_score_14 ⟨rfl, rfl⟩
    · refine ⟨2, AX.catchQ (name := "java/lang/IllegalStateException") [_] _ _ rfl (fun z hz => by
        obtain rfl := List.mem_singleton.mp hz
        exact Or.inr ⟨by decide, "java/lang/IndexOutOfBoundsException", (am_gw 963 (by decide +kernel) (by decide +kernel)), by decide⟩) rfl (by decide) (am_gw 1017 (by decide +kernel) (by decide +kernel)) (am_nw 1028 (by decide +kernel) (by decide +kernel)) (fun q => ?_), 2, rfl, Or.inr ⟨3, hx, rfl⟩⟩
      refine q_blk (lv2 := [(0, vr o), (1, vi a0), (2, vr out), (3, vr q)]) (st2 := [vi 2]) kL_score_15 rfl ?_
      exact q_ri rfl eL_score_17 ⟨rfl, rfl⟩
  · intro z h1 hs
    refine AQ.of (AS.i2lw eL_score_7) ?_
    refine q_ls eL_score_8 (hS z h1 hs) (by decide) (by decide) (fun h2 e2 => ?_)
    refine q_goto (tgt := 18) eL_score_9 (by decide) ?_
    refine q_blk (lv2 := [(0, vr o), (1, vi a0), (2, vr out)]) (st2 := [vi 0]) kL_score_18 rfl ?_
    exact q_ri rfl eL_score_19 ⟨0, rfl, Or.inl ⟨rfl, z, h1, hs, e2⟩⟩

theorem lk_L_points : am_lkW RL 142 m_L_points 3 := ⟨⟨wf_L_points, by decide, (am_gw 88 (by decide +kernel) (by decide +kernel)), ⟨by decide +kernel, by decide +kernel⟩, by decide +kernel, by decide⟩, (am_gw 1093 (by decide +kernel) (by decide +kernel)), (am_gw 1094 (by decide +kernel) (by decide +kernel))⟩
theorem c_L_points {w : am_w} {h : AH} {o out d : Nat} {a0 : Int} {f : Int → Int} {S : Int → AH → Prop} {X : Nat → AH → Prop} (hE : AE w m_X8_points d [vr o, vi a0] h (am_or (am_int S) X)) (ho : am_ob h o 7) (hS : ∀ z h1, S z h1 → h1.1 out = some (102, 1, f, am_N)) (hX : ∀ k h1, X k h1 → k = 0) : AE w m_L_points (d + 1) [vr o, vi a0, vr out] h (am_int (fun z h2 => (z = 0 ∧ ∃ v h1, S v h1 ∧ h2 = am_set h1 out (102, 1, am_uI f 0 (am_wr v), am_N)) ∨ ∃ k, X k h2 ∧ z = 1)) := by
  refine AE.of wf_L_points (Nat.le_of_ble_eq_true rfl) am_ok_i ?_
  refine q_blk (lv2 := [(0, vr o), (1, vi a0), (2, vr out)]) (st2 := [vi a0, vr o, vi 0, vr out]) kL_points_0 rfl ?_
  refine AQ.callcVi (av := [vi a0]) (st := [vi 0, vr out]) hE lk_RL_59 (Nat.le_refl _) rfl rfl ho ⟨_, rfl, rfl⟩ (Nat.le_of_ble_eq_true rfl) eL_points_4 ?_ ?_
  · intro k h1 hx
    obtain rfl := hX k h1 hx
    refine ⟨1, AX.catchQ (name := "java/lang/IllegalArgumentException") [] _ _ rfl (fun z hz => by cases hz) rfl (by decide) (am_gw 525 (by decide +kernel) (by decide +kernel)) (am_nw 532 (by decide +kernel) (by decide +kernel)) (fun q => ?_), 1, rfl, Or.inr ⟨0, hx, rfl⟩⟩
    refine q_blk (lv2 := [(0, vr o), (1, vi a0), (2, vr out), (3, vr q)]) (st2 := [vi 1]) kL_points_12 rfl ?_
    exact q_ri rfl eL_points_14 ⟨rfl, rfl⟩
  · intro z h1 hs
    refine AQ.of (AS.i2lw eL_points_7) ?_
    refine q_ls eL_points_8 (hS z h1 hs) (by decide) (by decide) (fun h2 e2 => ?_)
    refine q_goto (tgt := 15) eL_points_9 (by decide) ?_
    refine q_blk (lv2 := [(0, vr o), (1, vi a0), (2, vr out)]) (st2 := [vi 0]) kL_points_15 rfl ?_
    exact q_ri rfl eL_points_16 ⟨0, rfl, Or.inl ⟨rfl, z, h1, hs, e2⟩⟩

theorem lk_L_begin : am_lkW RL 149 m_L_begin 5 := ⟨⟨wf_L_begin, by decide, (am_gw 88 (by decide +kernel) (by decide +kernel)), ⟨by decide +kernel, by decide +kernel⟩, by decide +kernel, by decide⟩, (am_gw 1104 (by decide +kernel) (by decide +kernel)), (am_gw 1105 (by decide +kernel) (by decide +kernel))⟩
theorem c_L_begin {w : am_w} {h : AH} {o out d : Nat} {a0 a1 a2 : Int} {f : Int → Int} {S : Int → AH → Prop} {X : Nat → AH → Prop} (hE : AE w m_X8_begin d [vr o, vi a0, vi a1, vi a2] h (am_or (am_int S) X)) (ho : am_ob h o 7) (hS : ∀ z h1, S z h1 → h1.1 out = some (102, 1, f, am_N)) (hX : ∀ k h1, X k h1 → k = 0 ∨ k = 3) : AE w m_L_begin (d + 1) [vr o, vi a0, vi a1, vi a2, vr out] h (am_int (fun z h2 => (z = 0 ∧ ∃ v h1, S v h1 ∧ h2 = am_set h1 out (102, 1, am_uI f 0 (am_wr v), am_N)) ∨ ∃ k, X k h2 ∧ z = if k = 0 then 1 else 2)) := by
  refine AE.of wf_L_begin (Nat.le_of_ble_eq_true rfl) am_ok_i ?_
  refine q_blk (lv2 := [(0, vr o), (1, vi a0), (2, vi a1), (3, vi a2), (4, vr out)]) (st2 := [vi a2, vi a1, vi a0, vr o, vi 0, vr out]) kL_begin_0 rfl ?_
  refine AQ.callcVi (av := [vi a0, vi a1, vi a2]) (st := [vi 0, vr out]) hE lk_RL_62 (Nat.le_refl _) rfl rfl ho ⟨_, rfl, rfl⟩ (Nat.le_of_ble_eq_true rfl) eL_begin_7 ?_ ?_
  · intro k h1 hx
    rcases hX k h1 hx with rfl | rfl
    · refine ⟨1, AX.catchQ (name := "java/lang/IllegalArgumentException") [] _ _ rfl (fun z hz => by cases hz) rfl (by decide) (am_gw 525 (by decide +kernel) (by decide +kernel)) (am_nw 532 (by decide +kernel) (by decide +kernel)) (fun q => ?_), 1, rfl, Or.inr ⟨0, hx, rfl⟩⟩
      refine q_blk (lv2 := [(0, vr o), (1, vi a0), (2, vi a1), (3, vi a2), (4, vr out), (5, vr q)]) (st2 := [vi 1]) kL_begin_15 rfl ?_
      exact q_ri rfl eL_begin_18 ⟨rfl, rfl⟩
    · refine ⟨2, AX.catchQ (name := "java/lang/IllegalStateException") [_] _ _ rfl (fun z hz => by
        obtain rfl := List.mem_singleton.mp hz
        exact Or.inr ⟨by decide, "java/lang/IllegalArgumentException", (am_gw 525 (by decide +kernel) (by decide +kernel)), by decide⟩) rfl (by decide) (am_gw 1017 (by decide +kernel) (by decide +kernel)) (am_nw 1028 (by decide +kernel) (by decide +kernel)) (fun q => ?_), 2, rfl, Or.inr ⟨3, hx, rfl⟩⟩
      refine q_blk (lv2 := [(0, vr o), (1, vi a0), (2, vi a1), (3, vi a2), (4, vr out), (5, vr q)]) (st2 := [vi 2]) kL_begin_19 rfl ?_
      exact q_ri rfl eL_begin_22 ⟨rfl, rfl⟩
  · intro z h1 hs
    refine AQ.of (AS.i2lw eL_begin_10) ?_
    refine q_ls eL_begin_11 (hS z h1 hs) (by decide) (by decide) (fun h2 e2 => ?_)
    refine q_goto (tgt := 23) eL_begin_12 (by decide) ?_
    refine q_blk (lv2 := [(0, vr o), (1, vi a0), (2, vi a1), (3, vi a2), (4, vr out)]) (st2 := [vi 0]) kL_begin_23 rfl ?_
    exact q_ri rfl eL_begin_24 ⟨0, rfl, Or.inl ⟨rfl, z, h1, hs, e2⟩⟩

theorem lk_L_corner : am_lkW RL 152 m_L_corner 5 := ⟨⟨wf_L_corner, by decide, (am_gw 88 (by decide +kernel) (by decide +kernel)), ⟨by decide +kernel, by decide +kernel⟩, by decide +kernel, by decide⟩, (am_gw 1114 (by decide +kernel) (by decide +kernel)), (am_gw 1115 (by decide +kernel) (by decide +kernel))⟩
theorem c_L_corner {w : am_w} {h : AH} {o out d : Nat} {a0 a1 a2 : Int} {f : Int → Int} {S : Int → AH → Prop} {X : Nat → AH → Prop} (hE : AE w m_X8_corner d [vr o, vi a0, vi a1, vi a2] h (am_or (am_int S) X)) (ho : am_ob h o 7) (hS : ∀ z h1, S z h1 → h1.1 out = some (102, 1, f, am_N)) (hX : ∀ k h1, X k h1 → k = 2 ∨ k = 0) : AE w m_L_corner (d + 1) [vr o, vi a0, vi a1, vi a2, vr out] h (am_int (fun z h2 => (z = 0 ∧ ∃ v h1, S v h1 ∧ h2 = am_set h1 out (102, 1, am_uI f 0 (am_wr v), am_N)) ∨ ∃ k, X k h2 ∧ z = if k = 2 then 1 else 2)) := by
  refine AE.of wf_L_corner (Nat.le_of_ble_eq_true rfl) am_ok_i ?_
  refine q_blk (lv2 := [(0, vr o), (1, vi a0), (2, vi a1), (3, vi a2), (4, vr out)]) (st2 := [vi a2, vi a1, vi a0, vr o, vi 0, vr out]) kL_corner_0 rfl ?_
  refine AQ.callcVi (av := [vi a0, vi a1, vi a2]) (st := [vi 0, vr out]) hE lk_RL_65 (Nat.le_refl _) rfl rfl ho ⟨_, rfl, rfl⟩ (Nat.le_of_ble_eq_true rfl) eL_corner_7 ?_ ?_
  · intro k h1 hx
    rcases hX k h1 hx with rfl | rfl
    · refine ⟨1, AX.catchQ (name := "java/lang/IndexOutOfBoundsException") [] _ _ rfl (fun z hz => by cases hz) rfl (by decide) (am_gw 963 (by decide +kernel) (by decide +kernel)) (am_nw 974 (by decide +kernel) (by decide +kernel)) (fun q => ?_), 1, rfl, Or.inr ⟨2, hx, rfl⟩⟩
      refine q_blk (lv2 := [(0, vr o), (1, vi a0), (2, vi a1), (3, vi a2), (4, vr out), (5, vr q)]) (st2 := [vi 1]) kL_corner_15 rfl ?_
      exact q_ri rfl eL_corner_18 ⟨rfl, rfl⟩
    · refine ⟨2, AX.catchQ (name := "java/lang/IllegalArgumentException") [_] _ _ rfl (fun z hz => by
        obtain rfl := List.mem_singleton.mp hz
        exact Or.inr ⟨by decide, "java/lang/IndexOutOfBoundsException", (am_gw 963 (by decide +kernel) (by decide +kernel)), by decide⟩) rfl (by decide) (am_gw 525 (by decide +kernel) (by decide +kernel)) (am_nw 532 (by decide +kernel) (by decide +kernel)) (fun q => ?_), 2, rfl, Or.inr ⟨0, hx, rfl⟩⟩
      refine q_blk (lv2 := [(0, vr o), (1, vi a0), (2, vi a1), (3, vi a2), (4, vr out), (5, vr q)]) (st2 := [vi 2]) kL_corner_19 rfl ?_
      exact q_ri rfl eL_corner_22 ⟨rfl, rfl⟩
  · intro z h1 hs
    refine AQ.of (AS.i2lw eL_corner_10) ?_
    refine q_ls eL_corner_11 (hS z h1 hs) (by decide) (by decide) (fun h2 e2 => ?_)
    refine q_goto (tgt := 23) eL_corner_12 (by decide) ?_
    refine q_blk (lv2 := [(0, vr o), (1, vi a0), (2, vi a1), (3, vi a2), (4, vr out)]) (st2 := [vi 0]) kL_corner_23 rfl ?_
    exact q_ri rfl eL_corner_24 ⟨0, rfl, Or.inl ⟨rfl, z, h1, hs, e2⟩⟩

theorem lk_L_close : am_lkW RL 155 m_L_close 3 := ⟨⟨wf_L_close, by decide, (am_gw 88 (by decide +kernel) (by decide +kernel)), ⟨by decide +kernel, by decide +kernel⟩, by decide +kernel, by decide⟩, (am_gw 1122 (by decide +kernel) (by decide +kernel)), (am_gw 1123 (by decide +kernel) (by decide +kernel))⟩
theorem c_L_close {w : am_w} {h : AH} {o out d : Nat} {a0 : Int} {f : Int → Int} {S : Int → AH → Prop} {X : Nat → AH → Prop} (hE : AE w m_X8_close d [vr o, vi a0] h (am_or (am_int S) X)) (ho : am_ob h o 7) (hS : ∀ z h1, S z h1 → h1.1 out = some (102, 1, f, am_N)) (hX : ∀ k h1, X k h1 → k = 2) : AE w m_L_close (d + 1) [vr o, vi a0, vr out] h (am_int (fun z h2 => (z = 0 ∧ ∃ v h1, S v h1 ∧ h2 = am_set h1 out (102, 1, am_uI f 0 (am_wr v), am_N)) ∨ ∃ k, X k h2 ∧ z = 1)) := by
  refine AE.of wf_L_close (Nat.le_of_ble_eq_true rfl) am_ok_i ?_
  refine q_blk (lv2 := [(0, vr o), (1, vi a0), (2, vr out)]) (st2 := [vi a0, vr o, vi 0, vr out]) kL_close_0 rfl ?_
  refine AQ.callcVi (av := [vi a0]) (st := [vi 0, vr out]) hE lk_RL_68 (Nat.le_refl _) rfl rfl ho ⟨_, rfl, rfl⟩ (Nat.le_of_ble_eq_true rfl) eL_close_4 ?_ ?_
  · intro k h1 hx
    obtain rfl := hX k h1 hx
    refine ⟨1, AX.catchQ (name := "java/lang/IndexOutOfBoundsException") [] _ _ rfl (fun z hz => by cases hz) rfl (by decide) (am_gw 963 (by decide +kernel) (by decide +kernel)) (am_nw 974 (by decide +kernel) (by decide +kernel)) (fun q => ?_), 1, rfl, Or.inr ⟨2, hx, rfl⟩⟩
    refine q_blk (lv2 := [(0, vr o), (1, vi a0), (2, vr out), (3, vr q)]) (st2 := [vi 1]) kL_close_12 rfl ?_
    exact q_ri rfl eL_close_14 ⟨rfl, rfl⟩
  · intro z h1 hs
    refine AQ.of (AS.i2lw eL_close_7) ?_
    refine q_ls eL_close_8 (hS z h1 hs) (by decide) (by decide) (fun h2 e2 => ?_)
    refine q_goto (tgt := 15) eL_close_9 (by decide) ?_
    refine q_blk (lv2 := [(0, vr o), (1, vi a0), (2, vr out)]) (st2 := [vi 0]) kL_close_15 rfl ?_
    exact q_ri rfl eL_close_16 ⟨0, rfl, Or.inl ⟨rfl, z, h1, hs, e2⟩⟩

theorem lk_L_bend : am_lkW RL 158 m_L_bend 6 := ⟨⟨wf_L_bend, by decide, (am_gw 88 (by decide +kernel) (by decide +kernel)), ⟨by decide +kernel, by decide +kernel⟩, by decide +kernel, by decide⟩, (am_gw 1134 (by decide +kernel) (by decide +kernel)), (am_gw 1135 (by decide +kernel) (by decide +kernel))⟩
theorem c_L_bend {w : am_w} {h : AH} {o out d : Nat} {a0 a1 a2 a3 : Int} {f : Int → Int} {S : Int → AH → Prop} {X : Nat → AH → Prop} (hE : AE w m_X8_bend d [vr o, vi a0, vi a1, vi a2, vi a3] h (am_or (am_int S) X)) (ho : am_ob h o 7) (hS : ∀ z h1, S z h1 → h1.1 out = some (102, 1, f, am_N)) (hX : ∀ k h1, X k h1 → k = 2 ∨ k = 1 ∨ k = 0) : AE w m_L_bend (d + 1) [vr o, vi a0, vi a1, vi a2, vi a3, vr out] h (am_int (fun z h2 => (z = 0 ∧ ∃ v h1, S v h1 ∧ h2 = am_set h1 out (102, 1, am_uI f 0 (am_wr v), am_N)) ∨ ∃ k, X k h2 ∧ z = if k = 2 then 1 else if k = 1 then 2 else 3)) := by
  refine AE.of wf_L_bend (Nat.le_of_ble_eq_true rfl) am_ok_i ?_
  refine q_blk (lv2 := [(0, vr o), (1, vi a0), (2, vi a1), (3, vi a2), (4, vi a3), (5, vr out)]) (st2 := [vi a3, vi a2, vi a1, vi a0, vr o, vi 0, vr out]) kL_bend_0 rfl ?_
  refine AQ.callcVi (av := [vi a0, vi a1, vi a2, vi a3]) (st := [vi 0, vr out]) hE lk_RL_71 (Nat.le_refl _) rfl rfl ho ⟨_, rfl, rfl⟩ (Nat.le_of_ble_eq_true rfl) eL_bend_9 ?_ ?_
  · intro k h1 hx
    rcases hX k h1 hx with rfl | rfl | rfl
    · refine ⟨1, AX.catchQ (name := "java/lang/IndexOutOfBoundsException") [] _ _ rfl (fun z hz => by cases hz) rfl (by decide) (am_gw 963 (by decide +kernel) (by decide +kernel)) (am_nw 974 (by decide +kernel) (by decide +kernel)) (fun q => ?_), 1, rfl, Or.inr ⟨2, hx, rfl⟩⟩
      refine q_blk (lv2 := [(0, vr o), (1, vi a0), (2, vi a1), (3, vi a2), (4, vi a3), (5, vr out), (6, vr q)]) (st2 := [vi 1]) kL_bend_17 rfl ?_
      exact q_ri rfl eL_bend_20 ⟨rfl, rfl⟩
    · refine ⟨2, AX.catchQ (name := "java/util/NoSuchElementException") [_] _ _ rfl (fun z hz => by
        obtain rfl := List.mem_singleton.mp hz
        exact Or.inr ⟨by decide, "java/lang/IndexOutOfBoundsException", (am_gw 963 (by decide +kernel) (by decide +kernel)), by decide⟩) rfl (by decide) (am_gw 935 (by decide +kernel) (by decide +kernel)) (am_nw 942 (by decide +kernel) (by decide +kernel)) (fun q => ?_), 2, rfl, Or.inr ⟨1, hx, rfl⟩⟩
      refine q_blk (lv2 := [(0, vr o), (1, vi a0), (2, vi a1), (3, vi a2), (4, vi a3), (5, vr out), (6, vr q)]) (st2 := [vi 2]) kL_bend_21 rfl ?_
      exact q_ri rfl eL_bend_24 ⟨rfl, rfl⟩
    · refine ⟨3, AX.catchQ (name := "java/lang/IllegalArgumentException") [_, _] _ _ rfl (fun z hz => by
        rcases List.mem_cons.mp hz with rfl | hz
        · exact Or.inr ⟨by decide, "java/lang/IndexOutOfBoundsException", (am_gw 963 (by decide +kernel) (by decide +kernel)), by decide⟩
        · obtain rfl := List.mem_singleton.mp hz
          exact Or.inr ⟨by decide, "java/util/NoSuchElementException", (am_gw 935 (by decide +kernel) (by decide +kernel)), by decide⟩) rfl (by decide) (am_gw 525 (by decide +kernel) (by decide +kernel)) (am_nw 532 (by decide +kernel) (by decide +kernel)) (fun q => ?_), 3, rfl, Or.inr ⟨0, hx, rfl⟩⟩
      refine q_blk (lv2 := [(0, vr o), (1, vi a0), (2, vi a1), (3, vi a2), (4, vi a3), (5, vr out), (6, vr q)]) (st2 := [vi 3]) kL_bend_25 rfl ?_
      exact q_ri rfl eL_bend_28 ⟨rfl, rfl⟩
  · intro z h1 hs
    refine AQ.of (AS.i2lw eL_bend_12) ?_
    refine q_ls eL_bend_13 (hS z h1 hs) (by decide) (by decide) (fun h2 e2 => ?_)
    refine q_goto (tgt := 29) eL_bend_14 (by decide) ?_
    refine q_blk (lv2 := [(0, vr o), (1, vi a0), (2, vi a1), (3, vi a2), (4, vi a3), (5, vr out)]) (st2 := [vi 0]) kL_bend_29 rfl ?_
    exact q_ri rfl eL_bend_30 ⟨0, rfl, Or.inl ⟨rfl, z, h1, hs, e2⟩⟩

theorem lk_L_takeOut : am_lkW RL 162 m_L_takeOut 4 := ⟨⟨wf_L_takeOut, by decide, (am_gw 88 (by decide +kernel) (by decide +kernel)), ⟨by decide +kernel, by decide +kernel⟩, by decide +kernel, by decide⟩, (am_gw 1149 (by decide +kernel) (by decide +kernel)), (am_gw 1150 (by decide +kernel) (by decide +kernel))⟩
theorem c_L_takeOut {w : am_w} {h : AH} {o out d : Nat} {a0 a1 : Int} {f : Int → Int} {S : Int → AH → Prop} {X : Nat → AH → Prop} (hE : AE w m_X8_takeOut d [vr o, vi a0, vi a1] h (am_or (am_int S) X)) (ho : am_ob h o 7) (hS : ∀ z h1, S z h1 → h1.1 out = some (102, 1, f, am_N)) (hX : ∀ k h1, X k h1 → k = 2 ∨ k = 1) : AE w m_L_takeOut (d + 1) [vr o, vi a0, vi a1, vr out] h (am_int (fun z h2 => (z = 0 ∧ ∃ v h1, S v h1 ∧ h2 = am_set h1 out (102, 1, am_uI f 0 (am_wr v), am_N)) ∨ ∃ k, X k h2 ∧ z = if k = 2 then 1 else 2)) := by
  refine AE.of wf_L_takeOut (Nat.le_of_ble_eq_true rfl) am_ok_i ?_
  refine q_blk (lv2 := [(0, vr o), (1, vi a0), (2, vi a1), (3, vr out)]) (st2 := [vi a1, vi a0, vr o, vi 0, vr out]) kL_takeOut_0 rfl ?_
  refine AQ.callcVi (av := [vi a0, vi a1]) (st := [vi 0, vr out]) hE lk_RL_75 (Nat.le_refl _) rfl rfl ho ⟨_, rfl, rfl⟩ (Nat.le_of_ble_eq_true rfl) eL_takeOut_5 ?_ ?_
  · intro k h1 hx
    rcases hX k h1 hx with rfl | rfl
    · refine ⟨1, AX.catchQ (name := "java/lang/IndexOutOfBoundsException") [] _ _ rfl (fun z hz => by cases hz) rfl (by decide) (am_gw 963 (by decide +kernel) (by decide +kernel)) (am_nw 974 (by decide +kernel) (by decide +kernel)) (fun q => ?_), 1, rfl, Or.inr ⟨2, hx, rfl⟩⟩
      refine q_blk (lv2 := [(0, vr o), (1, vi a0), (2, vi a1), (3, vr out), (4, vr q)]) (st2 := [vi 1]) kL_takeOut_13 rfl ?_
      exact q_ri rfl eL_takeOut_16 ⟨rfl, rfl⟩
    · refine ⟨2, AX.catchQ (name := "java/util/NoSuchElementException") [_] _ _ rfl (fun z hz => by
        obtain rfl := List.mem_singleton.mp hz
        exact Or.inr ⟨by decide, "java/lang/IndexOutOfBoundsException", (am_gw 963 (by decide +kernel) (by decide +kernel)), by decide⟩) rfl (by decide) (am_gw 935 (by decide +kernel) (by decide +kernel)) (am_nw 942 (by decide +kernel) (by decide +kernel)) (fun q => ?_), 2, rfl, Or.inr ⟨1, hx, rfl⟩⟩
      refine q_blk (lv2 := [(0, vr o), (1, vi a0), (2, vi a1), (3, vr out), (4, vr q)]) (st2 := [vi 2]) kL_takeOut_17 rfl ?_
      exact q_ri rfl eL_takeOut_20 ⟨rfl, rfl⟩
  · intro z h1 hs
    refine AQ.of (AS.i2lw eL_takeOut_8) ?_
    refine q_ls eL_takeOut_9 (hS z h1 hs) (by decide) (by decide) (fun h2 e2 => ?_)
    refine q_goto (tgt := 21) eL_takeOut_10 (by decide) ?_
    refine q_blk (lv2 := [(0, vr o), (1, vi a0), (2, vi a1), (3, vr out)]) (st2 := [vi 0]) kL_takeOut_21 rfl ?_
    exact q_ri rfl eL_takeOut_22 ⟨0, rfl, Or.inl ⟨rfl, z, h1, hs, e2⟩⟩

theorem lk_L_remove : am_lkW RL 165 m_L_remove 3 := ⟨⟨wf_L_remove, by decide, (am_gw 88 (by decide +kernel) (by decide +kernel)), ⟨by decide +kernel, by decide +kernel⟩, by decide +kernel, by decide⟩, (am_gw 1165 (by decide +kernel) (by decide +kernel)), (am_gw 1166 (by decide +kernel) (by decide +kernel))⟩
theorem c_L_remove {w : am_w} {h : AH} {o out d : Nat} {a0 : Int} {f : Int → Int} {S : Int → AH → Prop} {X : Nat → AH → Prop} (hE : AE w m_X8_remove d [vr o, vi a0] h (am_or (am_int S) X)) (ho : am_ob h o 7) (hS : ∀ z h1, S z h1 → h1.1 out = some (102, 1, f, am_N)) (hX : ∀ k h1, X k h1 → k = 2) : AE w m_L_remove (d + 1) [vr o, vi a0, vr out] h (am_int (fun z h2 => (z = 0 ∧ ∃ v h1, S v h1 ∧ h2 = am_set h1 out (102, 1, am_uI f 0 (am_wr v), am_N)) ∨ ∃ k, X k h2 ∧ z = 1)) := by
  refine AE.of wf_L_remove (Nat.le_of_ble_eq_true rfl) am_ok_i ?_
  refine q_blk (lv2 := [(0, vr o), (1, vi a0), (2, vr out)]) (st2 := [vi a0, vr o, vi 0, vr out]) kL_remove_0 rfl ?_
  refine AQ.callcVi (av := [vi a0]) (st := [vi 0, vr out]) hE lk_RL_78 (Nat.le_refl _) rfl rfl ho ⟨_, rfl, rfl⟩ (Nat.le_of_ble_eq_true rfl) eL_remove_4 ?_ ?_
  · intro k h1 hx
    obtain rfl := hX k h1 hx
    refine ⟨1, AX.catchQ (name := "java/lang/IndexOutOfBoundsException") [] _ _ rfl (fun z hz => by cases hz) rfl (by decide) (am_gw 963 (by decide +kernel) (by decide +kernel)) (am_nw 974 (by decide +kernel) (by decide +kernel)) (fun q => ?_), 1, rfl, Or.inr ⟨2, hx, rfl⟩⟩
    refine q_blk (lv2 := [(0, vr o), (1, vi a0), (2, vr out), (3, vr q)]) (st2 := [vi 1]) kL_remove_12 rfl ?_
    exact q_ri rfl eL_remove_14 ⟨rfl, rfl⟩
  · intro z h1 hs
    refine AQ.of (AS.i2lw eL_remove_7) ?_
    refine q_ls eL_remove_8 (hS z h1 hs) (by decide) (by decide) (fun h2 e2 => ?_)
    refine q_goto (tgt := 15) eL_remove_9 (by decide) ?_
    refine q_blk (lv2 := [(0, vr o), (1, vi a0), (2, vr out)]) (st2 := [vi 0]) kL_remove_15 rfl ?_
    exact q_ri rfl eL_remove_16 ⟨0, rfl, Or.inl ⟨rfl, z, h1, hs, e2⟩⟩
