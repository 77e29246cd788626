/-! CornerClaimsModel: what reads its data. -/
section CALL20
variable {p : Program} {l : Launch} {e : Env} {R : Room} {s : State} {m : MethodId} {args : Array Value} {below : List Frame} {meth : Method} {c : Code} {H : Heap} {locs : List Loc} {cells slots : Nat}
/-- a call over a deeper stack -/
theorem vx_runV20 {y : MethodName} {bytes cc : ByteArray} {maxL nL mc ms n index : Nat} {ret : Option FieldType} {ws Ts : List Cond} {rm : Room} {Pc : Array Value → State → Prop} {Qc : Array Value → State → Outcome → State → Prop} {XC : String → State → State → Prop} {free : Addr → Prop} {own C : String} {b : Addr} {As rest : List Value} {g : JFrame}
    (S : CallFix p m c cc nL s args Ts own) (hM : vx_Met l y ws rm Pc Qc XC mc ms free) (cw : CallW R s args own C index y bytes maxL ret ws rm mc ms n) (hp : PreV s H C b Pc As) (h20 : 20 + (maxL + 11) + rm.locals ≤ R.locals)
    (hg : g.method = m) (hn : As.length = n) (hsize : g.locals.size = nL) (hstack : g.stack = As.reverse ++ .ref b :: rest) (hW : 2 * g.monitorRoom + (rest.map fun v => v.category).sum ≤ 20) (hdg : decode cc g.pc = .ok (.invokevirtual index, 3)) (hf : cells + mc ≤ R.cells ∧ slots + ms ≤ R.slots) :
    vx_Run p l e R s m args below meth c H locs cells slots mc ms g rest (Qc (Value.ref b :: As).toArray) XC free := by
  have hK : vx_Back l R p e below s args y 3 20 (PreOf R mc ms Pc) (PostOf Qc mc ms free) (vx_Post XC mc ms free) := by
    obtain ⟨hrc, hrs, hfr, hlo, hws, hcw, -, hini, -⟩ := cw.1
    exact vx_back (bytes := bytes) (maxL := maxL) (ret := ret) hM hp.1 hrc hrs hfr h20 hws hcw (fun a' U hW => word_at hW (Or.inl (by first | rfl | simp [Cond.onTables, Cond.keeps, Cond.steady])) hini)
  obtain ⟨⟨-, -, -, -, -, -, hcode, -, hy, hlen, hl⟩, hin, hse⟩ := cw
  obtain ⟨hx, hb, hml, ho, -⟩ := S
  obtain ⟨-, ⟨cellB, hcB, hoB, hclB⟩, hPc⟩ := hp
  intro T hT X
  rcases vx_callV X hx (C := C) (bytes := bytes) (maxL := maxL) (ret := ret) ho hl hin hse hcode hy hK (by rw [hT]; exact hcB) hoB hclB hg (hsize.trans hml.symm) (argsL := As) (rest := rest) (fun sig h => hn.trans (hlen sig h)) hstack hW (by rw [hb]; exact hdg)
    (fun vm₁ hW₁ => ⟨hf.1, hf.2, hPc (T.setVm vm₁) hT hW₁⟩) with ⟨v, vm₁, ⟨U', l2, c2, s2⟩, hW₁, X', ⟨g', mk, t, L, e1, e2, hq, h1, hL, h2, h3⟩, st⟩ | ⟨q, vm₁, ⟨U', l2, c2, s2⟩, hW₁, X', ⟨g', mk, t, L, E, ce, e1, e2, hq, hce, hcv, hcl, h1, hL, h2, h3⟩, st⟩
  · dsimp only [Pt.U, Pt.locs, Pt.cells, Pt.slots] at X' e1 e2 h1 h2 h3 st
    subst h1; subst h2; subst h3
    exact Or.inl ⟨v, (T.setVm vm₁).calling g' mk (Value.ref b :: As).toArray, t, U', L, hT, X', hL, e1, e2, hq, st⟩
  · dsimp only [Pt.U, Pt.locs, Pt.cells, Pt.slots] at X' e1 e2 h1 h2 h3 st hcl
    subst h1; subst h2; subst h3
    exact Or.inr ⟨q, (T.setVm vm₁).calling g' mk (Value.ref b :: As).toArray, t, U', L, E, ce, hT, X', hL, e1, e2, hq, hce, hcv, vx_cls hW₁ hcl, st⟩
end CALL20
section ACALL20
variable {w : am_w} {y y2 : YR} {d d2 pc idx n b : Nat} {lv : List (Nat × AV)} {av st stk : List AV} {h h1 h' : AH} {r1 r : RV}
theorem AW.callV20 {ci : Nat} {nn : Int} {f : Int → Int} {g : Int → Option Nat} (h17 : y2.2.2.1 ≤ 17) (hM : AM w y2 d2 (vr b :: av) h r1 h1) (kk : am_next w y d pc lv st r1 h1 r h') (hlk : am_lkV y.1.cls idx y2 n) (hdd : d2 + 1 ≤ d) (hst : stk = av.reverse ++ vr b :: st) (hn : av.length = n) (hb : h.1 b = some (ci, nn, f, g)) (hcl : ∃ q, vwCl[ci]? = some q ∧ q.1 = y2.1.cls) (h8 : am_cat8 st ≤ 20) (hd : decode y.2.1 pc = .ok (.invokevirtual idx, 3)) : AW w y d pc lv stk h r h' := by
  subst hst
  obtain ⟨m1, m2, m3, m4⟩ := hM
  obtain ⟨l1, l2⟩ := am_next_le kk
  refine ⟨Nat.le_trans m1 l1, Nat.le_trans m2 l2, fun p l e R s m args below meth c H locs cells slots Q ls hC hKS hKH hR hl hv hcl2 hsl hE => ?_⟩
  refine am_after m1 m2 kk hC hKS hl hv hcl2 hsl hE (a := (Value.ref b :: am_st av).toArray) ?_
  obtain ⟨⟨hwf, hhh, hini, hy, hpl, hnl⟩, hml, hin, hsel⟩ := hlk
  have hts := hC.2.2.2.2.1
  have hcw : am_cw y2 = Cond.code y2.1 y2.2.1 y2.2.2.1 y2.2.2.2.1 := by unfold am_cw; rw [if_pos hhh]
  obtain ⟨q, hq, hqc⟩ := hcl
  obtain ⟨-, -, cC, iS, hKn, cell, q1, q2, q3, -⟩ := am_obj (hR.2 b _ hb) hq
  have h5 := hC.2.2.2.2.2.2.2.2.1
  have h6 := hC.2.2.2.2.2.2.2.2.2.1
  rw [am_rv]
  exact vx_runV20 (C := y2.1.cls) (Ts := GW) ⟨hC.1, hC.2.1, hC.2.2.1, hC.2.2.2.1, hts⟩ (m4 l hC.2.2.2.2.2.2.2.1)
    ⟨⟨rfl, rfl, by show d2 + 1 ≤ R.frames; omega, by show 8 + (y2.2.2.1 + 11) + 48 * d2 ≤ R.locals; omega, am_pay hC hwf, by rw [← hcw]; exact List.mem_cons_self, by rw [← hcw]; exact hts _ hwf.1, hts _ hini, hy, am_plen hpl, hts _ hml⟩, hts _ hin, hts _ hsel⟩
    ⟨am_blind, ⟨cell, q1, by rw [q3]; rfl, by rw [q2, ← hqc]; exact hKn.2.1⟩, fun U hU hW => ⟨rfl, hKS.warm hW, by rw [hU]; exact hKH.moved hW.alike, by rw [hU]; exact hR.moved hW.alike⟩⟩ (by show 20 + (y2.2.2.1 + 11) + 48 * d2 ≤ R.locals; omega)
    rfl (by rw [← hn]; simp [am_st]) hv.1 rfl (by show 2 * 0 + _ ≤ 20; have := am_cat_ok st; show 2 * 0 + ((am_st st).map fun v => v.category).sum ≤ 20; omega) hd ⟨by omega, by omega⟩
theorem q_Vi20 {Q : RV → AH → Prop} {P : Int → Prop} {ci : Nat} (h17 : y2.2.2.1 ≤ 17) (hE : AE w y2 d2 (vr b :: av) h (am_intp h P)) (hlk : am_lkV y.1.cls idx y2 n) (hdd : d2 + 1 ≤ d) (hst : stk = av.reverse ++ vr b :: st) (hn : av.length = n) (hb : am_ob h b ci) (hcl : ∃ q, vwCl[ci]? = some q ∧ q.1 = y2.1.cls) (h8 : am_cat8 st ≤ 20) (hd : decode y.2.1 pc = .ok (.invokevirtual idx, 3)) (kk : ∀ z, P z → AQ w y d (pc + 3) lv (vi z :: st) h Q) : AQ w y d pc lv stk h Q := by
  obtain ⟨nn9, f9, g9, hb⟩ := hb
  obtain ⟨r1, h1, hM, z, rfl, hp, rfl⟩ := hE
  obtain ⟨r, h', k1, k2⟩ := kk z hp
  exact ⟨r, h', AW.callV20 h17 hM (r := r) k1 hlk hdd hst hn hb hcl h8 hd, k2⟩
end ACALL20
theorem VD.c {D : Int → Int} (hD : VD D) {p k : Int} (p0 : 0 ≤ p) (p1 : p < D 3) (k0 : 0 ≤ k) (k1 : k < pN D p) : am_c (pX D p k) ∧ am_c (pY D p k) := hD.vc p0 p1 k k0 k1
theorem VD.cs {D : Int → Int} (hD : VD D) {k : Int} (k0 : 0 ≤ k) (k1 : k < D 2) : am_c (sX D k) ∧ am_c (sY D k) := by
  have := hD.2.2.2.2.1 k k0 k1
  have := hD.1
  have := hD.2.1
  exact ⟨⟨by omega, by omega⟩, ⟨by omega, by omega⟩⟩
theorem VD.n {D : Int → Int} (hD : VD D) {p : Int} (p0 : 0 ≤ p) (p1 : p < D 3) : 1 ≤ pN D p ∧ pN D p ≤ 12 := (hD.2.2.2.2.2 p p0 p1).2.1
theorem VD.cl {D : Int → Int} (hD : VD D) {p : Int} (p0 : 0 ≤ p) (p1 : p < D 3) : pC D p = 0 ∨ (pC D p = 1 ∧ 3 ≤ pN D p) := (hD.2.2.2.2.2 p p0 p1).2.2.1

set_option maxHeartbeats 1000000 in
theorem c_X9_countOf {w : am_w} {h : AH} {n : Nat} {th bl tl ps er ea eo ud g0 g1 g2 g3 ns ne se : Int} {D : Int → Int} (hm : MM h n th bl tl ps er ea eo ud g0 g1 g2 g3 ns ne se D) (hD : VD D) {p : Int} (p0 : 0 ≤ p) (p1 : p ≤ 6)  : AE w m_X9_countOf 2 [vr n, vi p] h (am_intp h (fun z => z = pN D p)) := by
  refine AE.of wf_X9_countOf (Nat.le_of_ble_eq_true rfl) (am_ok_ip) ?_
  obtain ⟨m0, m1⟩ := id hm
  have d0 := hD.1
  have d1 := hD.2.1
  have d2 := hD.2.2.1
  have d3 := hD.2.2.2.1
  refine q_blk (lv2 := [(0, vr n), (1, vi p)]) (st2 := [vr n]) kX9_countOf_0 rfl ?_
  refine q_gr eX9_countOf_1 fl_RX9_17 (Or.inr ⟨_, rfl⟩) m0 rfl ?_
  refine q_blk (lv2 := [(0, vr n), (1, vi p)]) (st2 := [vi p, vr (n + 2)]) kX9_countOf_4 rfl ?_
  refine q_Si (av := [vi p]) (st := [vr (n + 2)]) c_X9_at lk_RX9_35 (by decide) rfl rfl (Nat.le_of_ble_eq_true rfl) eX9_countOf_5 (fun z1 e2 => ?_)
  subst e2
  refine q_blk (lv2 := [(0, vr n), (1, vi p)]) (st2 := [vi ((66 + (27 * p)) + 1), vr (n + 2)]) kX9_countOf_8 rfl ?_
  refine q_ia eX9_countOf_10 m1 (by decide) (by omega) (by omega) (z := (pN D p)) (congrArg D (by omega)) ?_
  exact q_ri rfl eX9_countOf_11 ⟨(pN D p), rfl, rfl, rfl⟩

set_option maxHeartbeats 1000000 in
theorem c_X9_isClosed {w : am_w} {h : AH} {n : Nat} {th bl tl ps er ea eo ud g0 g1 g2 g3 ns ne se : Int} {D : Int → Int} (hm : MM h n th bl tl ps er ea eo ud g0 g1 g2 g3 ns ne se D) (hD : VD D) {p : Int} (p0 : 0 ≤ p) (p1 : p < D 3)  : AE w m_X9_isClosed 2 [vr n, vi p] h (am_intp h (fun z => am_b z (pC D p = 1))) := by
  refine AE.of wf_X9_isClosed (Nat.le_of_ble_eq_true rfl) (am_ok_zp (fun z q => am_bz q)) ?_
  obtain ⟨m0, m1⟩ := id hm
  have d0 := hD.1
  have d1 := hD.2.1
  have d2 := hD.2.2.1
  have d3 := hD.2.2.2.1
  have hn := hD.n p0 p1
  have hcl := hD.cl p0 p1
  refine q_blk (lv2 := [(0, vr n), (1, vi p)]) (st2 := [vr n]) kX9_isClosed_0 rfl ?_
  refine q_gr eX9_isClosed_1 fl_RX9_17 (Or.inr ⟨_, rfl⟩) m0 rfl ?_
  refine q_blk (lv2 := [(0, vr n), (1, vi p)]) (st2 := [vi p, vr (n + 2)]) kX9_isClosed_4 rfl ?_
  refine q_Si (av := [vi p]) (st := [vr (n + 2)]) c_X9_at lk_RX9_35 (by decide) rfl rfl (Nat.le_of_ble_eq_true rfl) eX9_isClosed_5 (fun z1 e2 => ?_)
  subst e2
  refine q_blk (lv2 := [(0, vr n), (1, vi p)]) (st2 := [vi ((66 + (27 * p)) + 2), vr (n + 2)]) kX9_isClosed_8 rfl ?_
  refine q_ia eX9_isClosed_10 m1 (by decide) (by omega) (by omega) (z := (pC D p)) (congrArg D (by omega)) ?_
  refine q_blk (lv2 := [(0, vr n), (1, vi p)]) (st2 := [vi 1, vi (pC D p)]) kX9_isClosed_11 rfl ?_
  refine AQ.ic_ne (tgt := 19) eX9_isClosed_12 (by decide) (by first | assumption | exact ⟨by omega, by omega⟩) ⟨by decide, by decide⟩ (fun br3 => ?_) (fun br3 => ?_)
  · skip
    refine q_blk (lv2 := [(0, vr n), (1, vi p)]) (st2 := [vi 0]) kX9_isClosed_19 rfl ?_
    exact q_rz rfl eX9_isClosed_20 (by decide) ⟨0, rfl, Or.inr ⟨rfl, by omega⟩, rfl⟩
  · skip
    refine q_blk (lv2 := [(0, vr n), (1, vi p)]) (st2 := [vi 1]) kX9_isClosed_15 rfl ?_
    refine q_goto (tgt := 20) eX9_isClosed_16 (by decide) ?_
    exact q_rz rfl eX9_isClosed_20 (by decide) ⟨1, rfl, Or.inl ⟨rfl, by omega⟩, rfl⟩

set_option maxHeartbeats 1000000 in
theorem c_X9_xOf {w : am_w} {h : AH} {n : Nat} {th bl tl ps er ea eo ud g0 g1 g2 g3 ns ne se : Int} {D : Int → Int} (hm : MM h n th bl tl ps er ea eo ud g0 g1 g2 g3 ns ne se D) (hD : VD D) {p k : Int} (p0 : 0 ≤ p) (p1 : p ≤ 6) (k0 : 0 ≤ k) (k1 : k ≤ 12)  : AE w m_X9_xOf 2 [vr n, vi p, vi k] h (am_intp h (fun z => z = pX D p k)) := by
  refine AE.of wf_X9_xOf (Nat.le_of_ble_eq_true rfl) (am_ok_ip) ?_
  obtain ⟨m0, m1⟩ := id hm
  have d0 := hD.1
  have d1 := hD.2.1
  have d2 := hD.2.2.1
  have d3 := hD.2.2.2.1
  refine q_blk (lv2 := [(0, vr n), (1, vi p), (2, vi k)]) (st2 := [vr n]) kX9_xOf_0 rfl ?_
  refine q_gr eX9_xOf_1 fl_RX9_17 (Or.inr ⟨_, rfl⟩) m0 rfl ?_
  refine q_blk (lv2 := [(0, vr n), (1, vi p), (2, vi k)]) (st2 := [vi p, vr (n + 2)]) kX9_xOf_4 rfl ?_
  refine q_Si (av := [vi p]) (st := [vr (n + 2)]) c_X9_at lk_RX9_35 (by decide) rfl rfl (Nat.le_of_ble_eq_true rfl) eX9_xOf_5 (fun z1 e2 => ?_)
  subst e2
  refine q_blk (lv2 := [(0, vr n), (1, vi p), (2, vi k)]) (st2 := [vi (((66 + (27 * p)) + 3) + (2 * k)), vr (n + 2)]) kX9_xOf_8 rfl ?_
  refine q_ia eX9_xOf_14 m1 (by decide) (by omega) (by omega) (z := (pX D p k)) (congrArg D (by omega)) ?_
  exact q_ri rfl eX9_xOf_15 ⟨(pX D p k), rfl, rfl, rfl⟩

set_option maxHeartbeats 1000000 in
theorem c_X9_yOf {w : am_w} {h : AH} {n : Nat} {th bl tl ps er ea eo ud g0 g1 g2 g3 ns ne se : Int} {D : Int → Int} (hm : MM h n th bl tl ps er ea eo ud g0 g1 g2 g3 ns ne se D) (hD : VD D) {p k : Int} (p0 : 0 ≤ p) (p1 : p ≤ 6) (k0 : 0 ≤ k) (k1 : k ≤ 12)  : AE w m_X9_yOf 2 [vr n, vi p, vi k] h (am_intp h (fun z => z = pY D p k)) := by
  refine AE.of wf_X9_yOf (Nat.le_of_ble_eq_true rfl) (am_ok_ip) ?_
  obtain ⟨m0, m1⟩ := id hm
  have d0 := hD.1
  have d1 := hD.2.1
  have d2 := hD.2.2.1
  have d3 := hD.2.2.2.1
  refine q_blk (lv2 := [(0, vr n), (1, vi p), (2, vi k)]) (st2 := [vr n]) kX9_yOf_0 rfl ?_
  refine q_gr eX9_yOf_1 fl_RX9_17 (Or.inr ⟨_, rfl⟩) m0 rfl ?_
  refine q_blk (lv2 := [(0, vr n), (1, vi p), (2, vi k)]) (st2 := [vi p, vr (n + 2)]) kX9_yOf_4 rfl ?_
  refine q_Si (av := [vi p]) (st := [vr (n + 2)]) c_X9_at lk_RX9_35 (by decide) rfl rfl (Nat.le_of_ble_eq_true rfl) eX9_yOf_5 (fun z1 e2 => ?_)
  subst e2
  refine q_blk (lv2 := [(0, vr n), (1, vi p), (2, vi k)]) (st2 := [vi ((((66 + (27 * p)) + 3) + (2 * k)) + 1), vr (n + 2)]) kX9_yOf_8 rfl ?_
  refine q_ia eX9_yOf_16 m1 (by decide) (by omega) (by omega) (z := (pY D p k)) (congrArg D (by omega)) ?_
  exact q_ri rfl eX9_yOf_17 ⟨(pY D p k), rfl, rfl, rfl⟩

set_option maxHeartbeats 1000000 in
theorem c_X9_behind {w : am_w} {h : AH} {n : Nat} {th bl tl ps er ea eo ud g0 g1 g2 g3 ns ne se : Int} {D : Int → Int} (hm : MM h n th bl tl ps er ea eo ud g0 g1 g2 g3 ns ne se D) (hD : VD D) {p : Int} (p0 : 0 ≤ p) (p1 : p < D 3) {k : Int} (k0 : 0 ≤ k) (k1 : k < pN D p)  : AE w m_X9_behind 3 [vr n, vi p, vi k] h (am_intp h (fun z => z = gm_nx (pN D p) k)) := by
  refine AE.of wf_X9_behind (Nat.le_of_ble_eq_true rfl) (am_ok_ip) ?_
  obtain ⟨m0, m1⟩ := id hm
  have d0 := hD.1
  have d1 := hD.2.1
  have d2 := hD.2.2.1
  have d3 := hD.2.2.2.1
  have hn := hD.n p0 p1
  have hcl := hD.cl p0 p1
  refine q_blk (lv2 := [(0, vr n), (1, vi p), (2, vi k)]) (st2 := [vi p, vr n, vi (k + 1)]) kX9_behind_0 rfl ?_
  refine q_Vi (av := [vi p]) (st := [vi (k + 1)]) (c_X9_countOf hm hD (by omega) (by omega)) lk_RX9_39 (by decide) rfl rfl hm.ob ⟨_, rfl, rfl⟩ (Nat.le_of_ble_eq_true rfl) eX9_behind_5 (fun z1 e2 => ?_)
  subst e2
  refine AQ.ic_ne (tgt := 15) eX9_behind_8 (by decide) (by first | assumption | exact ⟨by omega, by omega⟩) (by first | assumption | exact ⟨by omega, by omega⟩) (fun br3 => ?_) (fun br3 => ?_)
  · skip
    refine q_blk (lv2 := [(0, vr n), (1, vi p), (2, vi k)]) (st2 := [vi (k + 1)]) kX9_behind_15 rfl ?_
    exact q_ri rfl eX9_behind_18 ⟨(k + 1), rfl, by unfold gm_nx; split <;> omega, rfl⟩
  · skip
    refine q_blk (lv2 := [(0, vr n), (1, vi p), (2, vi k)]) (st2 := [vi 0]) kX9_behind_11 rfl ?_
    refine q_goto (tgt := 18) eX9_behind_12 (by decide) ?_
    exact q_ri rfl eX9_behind_18 ⟨0, rfl, by unfold gm_nx; split <;> omega, rfl⟩

set_option maxHeartbeats 1000000 in
theorem c_X9_ahead {w : am_w} {h : AH} {n : Nat} {th bl tl ps er ea eo ud g0 g1 g2 g3 ns ne se : Int} {D : Int → Int} (hm : MM h n th bl tl ps er ea eo ud g0 g1 g2 g3 ns ne se D) (hD : VD D) {p : Int} (p0 : 0 ≤ p) (p1 : p < D 3) {k : Int} (k0 : 0 ≤ k) (k1 : k < pN D p)  : AE w m_X9_ahead 3 [vr n, vi p, vi k] h (am_intp h (fun z => z = gm_pv (pN D p) k)) := by
  refine AE.of wf_X9_ahead (Nat.le_of_ble_eq_true rfl) (am_ok_ip) ?_
  obtain ⟨m0, m1⟩ := id hm
  have d0 := hD.1
  have d1 := hD.2.1
  have d2 := hD.2.2.1
  have d3 := hD.2.2.2.1
  have hn := hD.n p0 p1
  have hcl := hD.cl p0 p1
  refine q_blk (lv2 := [(0, vr n), (1, vi p), (2, vi k)]) (st2 := [vi k]) kX9_ahead_0 rfl ?_
  refine AQ.if_ne (tgt := 14) eX9_ahead_1 (by decide) (by first | assumption | exact ⟨by omega, by omega⟩) (fun br1 => ?_) (fun br1 => ?_)
  · skip
    refine q_blk (lv2 := [(0, vr n), (1, vi p), (2, vi k)]) (st2 := [vi (k - 1)]) kX9_ahead_14 rfl ?_
    exact q_ri rfl eX9_ahead_17 ⟨(k - 1), rfl, by unfold gm_pv; split <;> omega, rfl⟩
  · skip
    refine q_blk (lv2 := [(0, vr n), (1, vi p), (2, vi k)]) (st2 := [vi p, vr n]) kX9_ahead_4 rfl ?_
    refine q_Vi (av := [vi p]) (st := []) (c_X9_countOf hm hD (by omega) (by omega)) lk_RX9_39 (by decide) rfl rfl hm.ob ⟨_, rfl, rfl⟩ (Nat.le_of_ble_eq_true rfl) eX9_ahead_6 (fun z2 e3 => ?_)
    subst e3
    refine q_blk (lv2 := [(0, vr n), (1, vi p), (2, vi k)]) (st2 := [vi ((pN D p) - 1)]) kX9_ahead_9 rfl ?_
    refine q_goto (tgt := 17) eX9_ahead_11 (by decide) ?_
    exact q_ri rfl eX9_ahead_17 ⟨((pN D p) - 1), rfl, by unfold gm_pv; split <;> omega, rfl⟩

set_option maxHeartbeats 1000000 in
theorem c_X9_sidesOf {w : am_w} {h : AH} {n : Nat} {th bl tl ps er ea eo ud g0 g1 g2 g3 ns ne se : Int} {D : Int → Int} (hm : MM h n th bl tl ps er ea eo ud g0 g1 g2 g3 ns ne se D) (hD : VD D) {p : Int} (p0 : 0 ≤ p) (p1 : p < D 3)  : AE w m_X9_sidesOf 3 [vr n, vi p] h (am_intp h (fun z => z = gm_ns (pN D p) (pC D p))) := by
  refine AE.of wf_X9_sidesOf (Nat.le_of_ble_eq_true rfl) (am_ok_ip) ?_
  obtain ⟨m0, m1⟩ := id hm
  have d0 := hD.1
  have d1 := hD.2.1
  have d2 := hD.2.2.1
  have d3 := hD.2.2.2.1
  have hn := hD.n p0 p1
  have hcl := hD.cl p0 p1
  refine q_blk (lv2 := [(0, vr n), (1, vi p)]) (st2 := [vi p, vr n]) kX9_sidesOf_0 rfl ?_
  refine q_Vi (av := [vi p]) (st := []) (c_X9_isClosed hm hD (by omega) (by omega)) lk_RX9_42 (by decide) rfl rfl hm.ob ⟨_, rfl, rfl⟩ (Nat.le_of_ble_eq_true rfl) eX9_sidesOf_2 (fun z1 e2 => ?_)
  rcases e2 with ⟨rfl, e2⟩ | ⟨rfl, e2⟩
  · skip
    refine AQ.of (AS.if_eq_f eX9_sidesOf_5 ⟨by decide, by decide⟩ (by decide) (by decide)) ?_
    refine q_blk (lv2 := [(0, vr n), (1, vi p)]) (st2 := [vi p, vr n]) kX9_sidesOf_8 rfl ?_
    refine q_Vi (av := [vi p]) (st := []) (c_X9_countOf hm hD (by omega) (by omega)) lk_RX9_39 (by decide) rfl rfl hm.ob ⟨_, rfl, rfl⟩ (Nat.le_of_ble_eq_true rfl) eX9_sidesOf_10 (fun z3 e4 => ?_)
    subst e4
    refine q_goto (tgt := 23) eX9_sidesOf_13 (by decide) ?_
    exact q_ri rfl eX9_sidesOf_23 ⟨(pN D p), rfl, by unfold gm_ns; split <;> omega, rfl⟩
  · skip
    refine AQ.of (AS.if_eq_t (tgt := 16) eX9_sidesOf_5 (by decide) ⟨by decide, by decide⟩ (by decide)) ?_
    refine q_blk (lv2 := [(0, vr n), (1, vi p)]) (st2 := [vi p, vr n]) kX9_sidesOf_16 rfl ?_
    refine q_Vi (av := [vi p]) (st := []) (c_X9_countOf hm hD (by omega) (by omega)) lk_RX9_39 (by decide) rfl rfl hm.ob ⟨_, rfl, rfl⟩ (Nat.le_of_ble_eq_true rfl) eX9_sidesOf_18 (fun z5 e6 => ?_)
    subst e6
    refine q_blk (lv2 := [(0, vr n), (1, vi p)]) (st2 := [vi ((pN D p) - 1)]) kX9_sidesOf_21 rfl ?_
    exact q_ri rfl eX9_sidesOf_23 ⟨((pN D p) - 1), rfl, by unfold gm_ns; split <;> omega, rfl⟩

set_option maxHeartbeats 1000000 in
theorem c_X9_isStone {w : am_w} {h : AH} {n : Nat} {th bl tl ps er ea eo ud g0 g1 g2 g3 ns ne se : Int} {D : Int → Int} (hm : MM h n th bl tl ps er ea eo ud g0 g1 g2 g3 ns ne se D) (hD : VD D) {x y : Int} (h_x : am_c x) (h_y : am_c y)  : AE w m_X9_isStone 3 [vr n, vi x, vi y] h (am_intp h (fun z => am_b z (∃ k, 0 ≤ k ∧ k < D 2 ∧ sX D k = x ∧ sY D k = y))) := by
  refine AE.of wf_X9_isStone (Nat.le_of_ble_eq_true rfl) (am_ok_zp (fun z q => am_bz q)) ?_
  obtain ⟨m0, m1⟩ := id hm
  have d0 := hD.1
  have d1 := hD.2.1
  have d2 := hD.2.2.1
  have d3 := hD.2.2.2.1
  have rx := h_x
  have ry := h_y
  unfold am_c at rx ry
  refine q_blk (lv2 := [(0, vr n), (1, vi x), (2, vi y), (3, vi 0)]) (st2 := []) kX9_isStone_0 rfl ?_
  refine am_lp1 (I := fun (i : Int) => (0 ≤ i ∧ i ≤ D 2) ∧ ∀ k, 0 ≤ k → k < i → ¬ (sX D k = x ∧ sY D k = y)) (μ := fun (i : Int) => (D 2 - i).toNat) (G := fun (i : Int) => AQ w m_X9_isStone 3 2 [(0, vr n), (1, vi x), (2, vi y), (3, vi i)] [] h (am_intp h (fun z => am_b z (∃ k, 0 ≤ k ∧ k < D 2 ∧ sX D k = x ∧ sY D k = y)))) ?_ 0 (⟨⟨by omega, by omega⟩, fun k h0 h1 => by omega⟩)
  intro i hI2 ih1
  obtain ⟨⟨i0, i1⟩, hno⟩ := hI2
  refine q_blk (lv2 := [(0, vr n), (1, vi x), (2, vi y), (3, vi i)]) (st2 := [vr n, vi i]) kX9_isStone_2 rfl ?_
  refine q_gr eX9_isStone_4 fl_RX9_17 (Or.inr ⟨_, rfl⟩) m0 rfl ?_
  refine q_blk (lv2 := [(0, vr n), (1, vi x), (2, vi y), (3, vi i)]) (st2 := [vi 2, vr (n + 2), vi i]) kX9_isStone_7 rfl ?_
  refine q_ia eX9_isStone_8 m1 (by decide) (by omega) (by omega) (z := (D 2)) rfl ?_
  refine AQ.ic_ge (tgt := 52) eX9_isStone_9 (by decide) (by first | assumption | exact ⟨by omega, by omega⟩) (by first | assumption | exact ⟨by omega, by omega⟩) (fun br3 => ?_) (fun br3 => ?_)
  · skip
    refine q_blk (lv2 := [(0, vr n), (1, vi x), (2, vi y), (3, vi i)]) (st2 := [vi 0]) kX9_isStone_52 rfl ?_
    exact q_rz rfl eX9_isStone_53 (by decide) ⟨0, rfl, Or.inr ⟨rfl, fun ⟨k, k0, k1, k2⟩ => hno k k0 (by omega) k2⟩, rfl⟩
  · skip
    refine q_blk (lv2 := [(0, vr n), (1, vi x), (2, vi y), (3, vi i)]) (st2 := [vr n]) kX9_isStone_12 rfl ?_
    have hsv := hD.2.2.2.2.1 i i0 (by omega)
    refine q_gr eX9_isStone_13 fl_RX9_17 (Or.inr ⟨_, rfl⟩) m0 rfl ?_
    refine q_blk (lv2 := [(0, vr n), (1, vi x), (2, vi y), (3, vi i)]) (st2 := [vi (6 + (3 * i)), vr (n + 2)]) kX9_isStone_16 rfl ?_
    refine q_ia eX9_isStone_22 m1 (by decide) (by omega) (by omega) (z := (sX D i)) rfl ?_
    refine q_blk (lv2 := [(0, vr n), (1, vi x), (2, vi y), (3, vi i)]) (st2 := [vi x, vi (sX D i)]) kX9_isStone_23 rfl ?_
    refine AQ.ic_ne (tgt := 46) eX9_isStone_24 (by decide) (by first | assumption | exact ⟨by omega, by omega⟩) (by first | assumption | exact ⟨by omega, by omega⟩) (fun br4 => ?_) (fun br4 => ?_)
    · skip
      refine q_blk (lv2 := [(0, vr n), (1, vi x), (2, vi y), (3, vi (i + 1))]) (st2 := []) kX9_isStone_46 rfl ?_
      refine q_goto (tgt := 2) eX9_isStone_49 (by decide) ?_
      exact ih1 (i + 1) (⟨⟨by omega, by omega⟩, fun k k0 k1 => by
      by_cases e : k = i
      · subst e; omega
      · exact hno k k0 (by omega)⟩) (by omega)
    · skip
      refine q_blk (lv2 := [(0, vr n), (1, vi x), (2, vi y), (3, vi i)]) (st2 := [vr n]) kX9_isStone_27 rfl ?_
      refine q_gr eX9_isStone_28 fl_RX9_17 (Or.inr ⟨_, rfl⟩) m0 rfl ?_
      refine q_blk (lv2 := [(0, vr n), (1, vi x), (2, vi y), (3, vi i)]) (st2 := [vi ((6 + (3 * i)) + 1), vr (n + 2)]) kX9_isStone_31 rfl ?_
      refine q_ia eX9_isStone_39 m1 (by decide) (by omega) (by omega) (z := (sY D i)) (congrArg D (by omega)) ?_
      refine q_blk (lv2 := [(0, vr n), (1, vi x), (2, vi y), (3, vi i)]) (st2 := [vi y, vi (sY D i)]) kX9_isStone_40 rfl ?_
      refine AQ.ic_ne (tgt := 46) eX9_isStone_41 (by decide) (by first | assumption | exact ⟨by omega, by omega⟩) (by first | assumption | exact ⟨by omega, by omega⟩) (fun br5 => ?_) (fun br5 => ?_)
      · skip
        refine q_blk (lv2 := [(0, vr n), (1, vi x), (2, vi y), (3, vi (i + 1))]) (st2 := []) kX9_isStone_46 rfl ?_
        refine q_goto (tgt := 2) eX9_isStone_49 (by decide) ?_
        exact ih1 (i + 1) (⟨⟨by omega, by omega⟩, fun k k0 k1 => by
      by_cases e : k = i
      · subst e; omega
      · exact hno k k0 (by omega)⟩) (by omega)
      · skip
        refine q_blk (lv2 := [(0, vr n), (1, vi x), (2, vi y), (3, vi i)]) (st2 := [vi 1]) kX9_isStone_44 rfl ?_
        exact q_rz rfl eX9_isStone_45 (by decide) ⟨1, rfl, Or.inl ⟨rfl, ⟨i, by omega, by omega, by omega, by omega⟩⟩, rfl⟩

set_option maxHeartbeats 1000000 in
theorem c_X9_isTaken {w : am_w} {h : AH} {n : Nat} {th bl tl ps er ea eo ud g0 g1 g2 g3 ns ne se : Int} {D : Int → Int} (hm : MM h n th bl tl ps er ea eo ud g0 g1 g2 g3 ns ne se D) (hD : VD D) {x y : Int} (h_x : am_c x) (h_y : am_c y)  : AE w m_X9_isTaken 4 [vr n, vi x, vi y] h (am_intp h (fun z => am_b z (gm_tk D x y))) := by
  refine AE.of wf_X9_isTaken (Nat.le_of_ble_eq_true rfl) (am_ok_zp (fun z q => am_bz q)) ?_
  obtain ⟨m0, m1⟩ := id hm
  have d0 := hD.1
  have d1 := hD.2.1
  have d2 := hD.2.2.1
  have d3 := hD.2.2.2.1
  have rx := h_x
  have ry := h_y
  unfold am_c at rx ry
  refine q_blk (lv2 := [(0, vr n), (1, vi x), (2, vi y), (3, vi 0)]) (st2 := []) kX9_isTaken_0 rfl ?_
  refine am_lp1 (I := fun (p : Int) => (0 ≤ p ∧ p ≤ D 3) ∧ ∀ k, 0 ≤ k → k < p → ¬ gm_hc (pN D k) (pX D k) (pY D k) x y) (μ := fun (p : Int) => (D 3 - p).toNat) (G := fun (p : Int) => AQ w m_X9_isTaken 4 2 [(0, vr n), (1, vi x), (2, vi y), (3, vi p)] [] h (am_intp h (fun z => am_b z (gm_tk D x y)))) ?_ 0 (⟨⟨by omega, by omega⟩, fun k h0 h1 => by omega⟩)
  intro p hI2 ih1
  obtain ⟨⟨p0, p1⟩, hnp⟩ := hI2
  refine q_blk (lv2 := [(0, vr n), (1, vi x), (2, vi y), (3, vi p)]) (st2 := [vr n, vi p]) kX9_isTaken_2 rfl ?_
  refine q_gr eX9_isTaken_4 fl_RX9_17 (Or.inr ⟨_, rfl⟩) m0 rfl ?_
  refine q_blk (lv2 := [(0, vr n), (1, vi x), (2, vi y), (3, vi p)]) (st2 := [vi 3, vr (n + 2), vi p]) kX9_isTaken_7 rfl ?_
  refine q_ia eX9_isTaken_8 m1 (by decide) (by omega) (by omega) (z := (D 3)) rfl ?_
  refine AQ.ic_ge (tgt := 61) eX9_isTaken_9 (by decide) (by first | assumption | exact ⟨by omega, by omega⟩) (by first | assumption | exact ⟨by omega, by omega⟩) (fun br3 => ?_) (fun br3 => ?_)
  · skip
    refine q_blk (lv2 := [(0, vr n), (1, vi x), (2, vi y), (3, vi p)]) (st2 := [vi y, vi x, vr n]) kX9_isTaken_61 rfl ?_
    refine q_Vi (av := [vi x, vi y]) (st := []) (c_X9_isStone hm hD h_x h_y) lk_RX9_78 (by decide) rfl rfl hm.ob ⟨_, rfl, rfl⟩ (Nat.le_of_ble_eq_true rfl) eX9_isTaken_64 (fun z4 e5 => ?_)
    rcases e5 with ⟨rfl, e5⟩ | ⟨rfl, e5⟩
    · skip
      exact q_rz rfl eX9_isTaken_67 (by decide) ⟨1, rfl, Or.inl ⟨rfl, Or.inl e5⟩, rfl⟩
    · skip
      exact q_rz rfl eX9_isTaken_67 (by decide) ⟨0, rfl, Or.inr ⟨rfl, fun q => by
        rcases q with q | ⟨k, k0, k1, k2⟩
        · exact e5 q
        · exact hnp k k0 (by omega) k2⟩, rfl⟩
  · skip
    have hn := hD.n p0 (by omega)
    refine q_blk (lv2 := [(0, vr n), (1, vi x), (2, vi y), (3, vi p), (4, vi 0)]) (st2 := []) kX9_isTaken_12 rfl ?_
    refine am_lp1 (I := fun (k : Int) => (0 ≤ k ∧ k ≤ pN D p) ∧ ∀ i, 0 ≤ i → i < k → ¬ (pX D p i = x ∧ pY D p i = y)) (μ := fun (k : Int) => (pN D p - k).toNat) (G := fun (k : Int) => AQ w m_X9_isTaken 4 15 [(0, vr n), (1, vi x), (2, vi y), (3, vi p), (4, vi k)] [] h (am_intp h (fun z => am_b z (gm_tk D x y)))) ?_ 0 (⟨⟨by omega, by omega⟩, fun k h0 h1 => by omega⟩)
    intro k hI7 ih6
    obtain ⟨⟨k0, k1⟩, hnk⟩ := hI7
    refine q_blk (lv2 := [(0, vr n), (1, vi x), (2, vi y), (3, vi p), (4, vi k)]) (st2 := [vi p, vr n, vi k]) kX9_isTaken_15 rfl ?_
    refine q_Vi (av := [vi p]) (st := [vi k]) (c_X9_countOf hm hD (by omega) (by omega)) lk_RX9_39 (by decide) rfl rfl hm.ob ⟨_, rfl, rfl⟩ (Nat.le_of_ble_eq_true rfl) eX9_isTaken_19 (fun z8 e9 => ?_)
    subst e9
    refine AQ.ic_ge (tgt := 55) eX9_isTaken_22 (by decide) (by first | assumption | exact ⟨by omega, by omega⟩) (by first | assumption | exact ⟨by omega, by omega⟩) (fun br10 => ?_) (fun br10 => ?_)
    · skip
      refine q_blk (lv2 := [(0, vr n), (1, vi x), (2, vi y), (3, vi (p + 1)), (4, vi k)]) (st2 := []) kX9_isTaken_55 rfl ?_
      refine q_goto (tgt := 2) eX9_isTaken_58 (by decide) ?_
      refine q_sub (lv2 := [(0, vr n), (1, vi x), (2, vi y), (3, vi (p + 1))]) [0, 1, 2, 3] rfl ?_
      exact ih1 (p + 1) (⟨⟨by omega, by omega⟩, fun q q0 q1 => by
      by_cases e : q = p
      · subst e; exact fun ⟨i, i0, i1, i2⟩ => hnk i i0 (by omega) i2
      · exact hnp q q0 (by omega)⟩) (by omega)
    · skip
      have hc9 := hD.c p0 (by omega) k0 (by omega)
      have hc8 := hc9.1
      have hc7 := hc9.2
      unfold am_c at hc8 hc7
      refine q_blk (lv2 := [(0, vr n), (1, vi x), (2, vi y), (3, vi p), (4, vi k)]) (st2 := [vi k, vi p, vr n]) kX9_isTaken_25 rfl ?_
      refine q_Vi (av := [vi p, vi k]) (st := []) (c_X9_xOf hm hD (by omega) (by omega) (by omega) (by omega)) lk_RX9_72 (by decide) rfl rfl hm.ob ⟨_, rfl, rfl⟩ (Nat.le_of_ble_eq_true rfl) eX9_isTaken_29 (fun z11 e12 => ?_)
      subst e12
      refine q_blk (lv2 := [(0, vr n), (1, vi x), (2, vi y), (3, vi p), (4, vi k)]) (st2 := [vi x, vi (pX D p k)]) kX9_isTaken_32 rfl ?_
      refine AQ.ic_ne (tgt := 49) eX9_isTaken_33 (by decide) (by first | assumption | exact ⟨by omega, by omega⟩) (by first | assumption | exact ⟨by omega, by omega⟩) (fun br13 => ?_) (fun br13 => ?_)
      · skip
        refine q_blk (lv2 := [(0, vr n), (1, vi x), (2, vi y), (3, vi p), (4, vi (k + 1))]) (st2 := []) kX9_isTaken_49 rfl ?_
        refine q_goto (tgt := 15) eX9_isTaken_52 (by decide) ?_
        exact ih6 (k + 1) (⟨⟨by omega, by omega⟩, fun i i0 i1 => by
      by_cases e : i = k
      · subst e; omega
      · exact hnk i i0 (by omega)⟩) (by omega)
      · skip
        refine q_blk (lv2 := [(0, vr n), (1, vi x), (2, vi y), (3, vi p), (4, vi k)]) (st2 := [vi k, vi p, vr n]) kX9_isTaken_36 rfl ?_
        refine q_Vi (av := [vi p, vi k]) (st := []) (c_X9_yOf hm hD (by omega) (by omega) (by omega) (by omega)) lk_RX9_75 (by decide) rfl rfl hm.ob ⟨_, rfl, rfl⟩ (Nat.le_of_ble_eq_true rfl) eX9_isTaken_40 (fun z14 e15 => ?_)
        subst e15
        refine q_blk (lv2 := [(0, vr n), (1, vi x), (2, vi y), (3, vi p), (4, vi k)]) (st2 := [vi y, vi (pY D p k)]) kX9_isTaken_43 rfl ?_
        refine AQ.ic_ne (tgt := 49) eX9_isTaken_44 (by decide) (by first | assumption | exact ⟨by omega, by omega⟩) (by first | assumption | exact ⟨by omega, by omega⟩) (fun br16 => ?_) (fun br16 => ?_)
        · skip
          refine q_blk (lv2 := [(0, vr n), (1, vi x), (2, vi y), (3, vi p), (4, vi (k + 1))]) (st2 := []) kX9_isTaken_49 rfl ?_
          refine q_goto (tgt := 15) eX9_isTaken_52 (by decide) ?_
          exact ih6 (k + 1) (⟨⟨by omega, by omega⟩, fun i i0 i1 => by
      by_cases e : i = k
      · subst e; omega
      · exact hnk i i0 (by omega)⟩) (by omega)
        · skip
          refine q_blk (lv2 := [(0, vr n), (1, vi x), (2, vi y), (3, vi p), (4, vi k)]) (st2 := [vi 1]) kX9_isTaken_47 rfl ?_
          exact q_rz rfl eX9_isTaken_48 (by decide) ⟨1, rfl, Or.inl ⟨rfl, Or.inr ⟨p, by omega, by omega, k, by omega, by omega, by omega, by omega⟩⟩, rfl⟩

set_option maxHeartbeats 1000000 in
theorem c_X9_isOnSide {w : am_w} {h : AH} {n : Nat} {th bl tl ps er ea eo ud g0 g1 g2 g3 ns ne se : Int} {D : Int → Int} (hm : MM h n th bl tl ps er ea eo ud g0 g1 g2 g3 ns ne se D) (hD : VD D) {x y : Int} (h_x : am_c x) (h_y : am_c y)  : AE w m_X9_isOnSide 4 [vr n, vi x, vi y] h (am_intp h (fun z => am_b z (gm_oD D x y))) := by
  refine AE.of wf_X9_isOnSide (Nat.le_of_ble_eq_true rfl) (am_ok_zp (fun z q => am_bz q)) ?_
  obtain ⟨m0, m1⟩ := id hm
  have d0 := hD.1
  have d1 := hD.2.1
  have d2 := hD.2.2.1
  have d3 := hD.2.2.2.1
  have rx := h_x
  have ry := h_y
  unfold am_c at rx ry
  refine q_blk (lv2 := [(0, vr n), (1, vi x), (2, vi y), (3, vi 0)]) (st2 := []) kX9_isOnSide_0 rfl ?_
  refine am_lp1 (I := fun (p : Int) => (0 ≤ p ∧ p ≤ D 3) ∧ ∀ k, 0 ≤ k → k < p → ¬ gm_os (gm_ns (pN D k) (pC D k)) (pN D k) (pX D k) (pY D k) x y) (μ := fun (p : Int) => (D 3 - p).toNat) (G := fun (p : Int) => AQ w m_X9_isOnSide 4 2 [(0, vr n), (1, vi x), (2, vi y), (3, vi p)] [] h (am_intp h (fun z => am_b z (gm_oD D x y)))) ?_ 0 (⟨⟨by omega, by omega⟩, fun k h0 h1 => by omega⟩)
  intro p hI2 ih1
  obtain ⟨⟨p0, p1⟩, hnp⟩ := hI2
  refine q_blk (lv2 := [(0, vr n), (1, vi x), (2, vi y), (3, vi p)]) (st2 := [vr n, vi p]) kX9_isOnSide_2 rfl ?_
  refine q_gr eX9_isOnSide_4 fl_RX9_17 (Or.inr ⟨_, rfl⟩) m0 rfl ?_
  refine q_blk (lv2 := [(0, vr n), (1, vi x), (2, vi y), (3, vi p)]) (st2 := [vi 3, vr (n + 2), vi p]) kX9_isOnSide_7 rfl ?_
  refine q_ia eX9_isOnSide_8 m1 (by decide) (by omega) (by omega) (z := (D 3)) rfl ?_
  refine AQ.ic_ge (tgt := 85) eX9_isOnSide_9 (by decide) (by first | assumption | exact ⟨by omega, by omega⟩) (by first | assumption | exact ⟨by omega, by omega⟩) (fun br3 => ?_) (fun br3 => ?_)
  · skip
    refine q_blk (lv2 := [(0, vr n), (1, vi x), (2, vi y), (3, vi p)]) (st2 := [vi 0]) kX9_isOnSide_85 rfl ?_
    exact q_rz rfl eX9_isOnSide_86 (by decide) ⟨0, rfl, Or.inr ⟨rfl, fun ⟨q, q0, q1, q2⟩ => hnp q q0 (by omega) q2⟩, rfl⟩
  · skip
    have hn := hD.n p0 (by omega)
    have hns : gm_ns (pN D p) (pC D p) = pN D p - 1 ∨ gm_ns (pN D p) (pC D p) = pN D p := by unfold gm_ns; split <;> omega
    refine q_blk (lv2 := [(0, vr n), (1, vi x), (2, vi y), (3, vi p), (4, vi 0)]) (st2 := []) kX9_isOnSide_12 rfl ?_
    refine am_lp1 (I := fun (k : Int) => (0 ≤ k ∧ k ≤ gm_ns (pN D p) (pC D p)) ∧ ∀ i, 0 ≤ i → i < k → ¬ gm_sd (pN D p) (pX D p) (pY D p) x y i) (μ := fun (k : Int) => (gm_ns (pN D p) (pC D p) - k).toNat) (G := fun (k : Int) => AQ w m_X9_isOnSide 4 15 [(0, vr n), (1, vi x), (2, vi y), (3, vi p), (4, vi k)] [] h (am_intp h (fun z => am_b z (gm_oD D x y)))) ?_ 0 (⟨⟨by omega, by omega⟩, fun k h0 h1 => by omega⟩)
    intro k hI5 ih4
    obtain ⟨⟨k0, k1⟩, hnk⟩ := hI5
    refine q_blk (lv2 := [(0, vr n), (1, vi x), (2, vi y), (3, vi p), (4, vi k)]) (st2 := [vi p, vr n, vi k]) kX9_isOnSide_15 rfl ?_
    refine q_Vi (av := [vi p]) (st := [vi k]) (c_X9_sidesOf hm hD (by omega) (by omega)) lk_RX9_81 (by decide) rfl rfl hm.ob ⟨_, rfl, rfl⟩ (Nat.le_of_ble_eq_true rfl) eX9_isOnSide_19 (fun z6 e7 => ?_)
    subst e7
    refine AQ.ic_ge (tgt := 79) eX9_isOnSide_22 (by decide) (by first | assumption | exact ⟨by omega, by omega⟩) (by first | assumption | exact ⟨by omega, by omega⟩) (fun br8 => ?_) (fun br8 => ?_)
    · skip
      refine q_blk (lv2 := [(0, vr n), (1, vi x), (2, vi y), (3, vi (p + 1)), (4, vi k)]) (st2 := []) kX9_isOnSide_79 rfl ?_
      refine q_goto (tgt := 2) eX9_isOnSide_82 (by decide) ?_
      refine q_sub (lv2 := [(0, vr n), (1, vi x), (2, vi y), (3, vi (p + 1))]) [0, 1, 2, 3] rfl ?_
      exact ih1 (p + 1) (⟨⟨by omega, by omega⟩, fun q q0 q1 => by
      by_cases e : q = p
      · subst e; exact fun ⟨i, i0, i1, i2⟩ => hnk i i0 (by omega) i2
      · exact hnp q q0 (by omega)⟩) (by omega)
    · skip
      have hc9 := hD.c p0 (by omega) k0 (by omega)
      obtain ⟨hc8, hc7⟩ := id hc9
      have nx8 := gm_nx_r (n := pN D p) (k := k) (by omega) (by omega)
      obtain ⟨hc6, hc5⟩ := id (hD.c p0 (by omega) nx8.1 nx8.2)
      refine q_blk (lv2 := [(0, vr n), (1, vi x), (2, vi y), (3, vi p), (4, vi k)]) (st2 := [vi k, vi p, vr n]) kX9_isOnSide_25 rfl ?_
      refine q_Vi (av := [vi p, vi k]) (st := []) (c_X9_xOf hm hD (by omega) (by omega) (by omega) (by omega)) lk_RX9_72 (by decide) rfl rfl hm.ob ⟨_, rfl, rfl⟩ (Nat.le_of_ble_eq_true rfl) eX9_isOnSide_29 (fun z9 e10 => ?_)
      subst e10
      refine q_blk (lv2 := [(0, vr n), (1, vi x), (2, vi y), (3, vi p), (4, vi k)]) (st2 := [vi k, vi p, vr n, vi (pX D p k)]) kX9_isOnSide_32 rfl ?_
      refine q_Vi (av := [vi p, vi k]) (st := [vi (pX D p k)]) (c_X9_yOf hm hD (by omega) (by omega) (by omega) (by omega)) lk_RX9_75 (by decide) rfl rfl hm.ob ⟨_, rfl, rfl⟩ (Nat.le_of_ble_eq_true rfl) eX9_isOnSide_36 (fun z11 e12 => ?_)
      subst e12
      refine q_blk (lv2 := [(0, vr n), (1, vi x), (2, vi y), (3, vi p), (4, vi k)]) (st2 := [vi k, vi p, vr n, vi p, vr n, vi (pY D p k), vi (pX D p k)]) kX9_isOnSide_39 rfl ?_
      refine q_Vi (av := [vi p, vi k]) (st := [vi p, vr n, vi (pY D p k), vi (pX D p k)]) (c_X9_behind hm hD (by omega) (by omega) (by omega) (by omega)) lk_RX9_84 (by decide) rfl rfl hm.ob ⟨_, rfl, rfl⟩ (Nat.le_of_ble_eq_true rfl) eX9_isOnSide_45 (fun z13 e14 => ?_)
      subst e14
      have nx9 := gm_nx_r (n := pN D p) (k := k) (by omega) (by omega)
      refine q_Vi (av := [vi p, vi (gm_nx (pN D p) k)]) (st := [vi (pY D p k), vi (pX D p k)]) (c_X9_xOf hm hD (by omega) (by omega) (by omega) (by omega)) lk_RX9_72 (by decide) rfl rfl hm.ob ⟨_, rfl, rfl⟩ (Nat.le_of_ble_eq_true rfl) eX9_isOnSide_48 (fun z15 e16 => ?_)
      subst e16
      refine q_blk (lv2 := [(0, vr n), (1, vi x), (2, vi y), (3, vi p), (4, vi k)]) (st2 := [vi k, vi p, vr n, vi p, vr n, vi (pX D p (gm_nx (pN D p) k)), vi (pY D p k), vi (pX D p k)]) kX9_isOnSide_51 rfl ?_
      refine q_Vi (av := [vi p, vi k]) (st := [vi p, vr n, vi (pX D p (gm_nx (pN D p) k)), vi (pY D p k), vi (pX D p k)]) (c_X9_behind hm hD (by omega) (by omega) (by omega) (by omega)) lk_RX9_84 (by decide) rfl rfl hm.ob ⟨_, rfl, rfl⟩ (Nat.le_of_ble_eq_true rfl) eX9_isOnSide_57 (fun z17 e18 => ?_)
      subst e18
      have nx9 := gm_nx_r (n := pN D p) (k := k) (by omega) (by omega)
      refine q_Vi (av := [vi p, vi (gm_nx (pN D p) k)]) (st := [vi (pX D p (gm_nx (pN D p) k)), vi (pY D p k), vi (pX D p k)]) (c_X9_yOf hm hD (by omega) (by omega) (by omega) (by omega)) lk_RX9_75 (by decide) rfl rfl hm.ob ⟨_, rfl, rfl⟩ (Nat.le_of_ble_eq_true rfl) eX9_isOnSide_60 (fun z19 e20 => ?_)
      subst e20
      refine q_blk (lv2 := [(0, vr n), (1, vi x), (2, vi y), (3, vi p), (4, vi k)]) (st2 := [vi y, vi x, vi (pY D p (gm_nx (pN D p) k)), vi (pX D p (gm_nx (pN D p) k)), vi (pY D p k), vi (pX D p k)]) kX9_isOnSide_63 rfl ?_
      refine q_Si (av := [vi (pX D p k), vi (pY D p k), vi (pX D p (gm_nx (pN D p) k)), vi (pY D p (gm_nx (pN D p) k)), vi x, vi y]) (st := []) (c_X9_isOn (by first | assumption | exact ⟨by omega, by omega⟩) (by first | assumption | exact ⟨by omega, by omega⟩) (by first | assumption | exact ⟨by omega, by omega⟩) (by first | assumption | exact ⟨by omega, by omega⟩) (by first | assumption | exact ⟨by omega, by omega⟩) (by first | assumption | exact ⟨by omega, by omega⟩)) lk_RX9_61 (by decide) rfl rfl (Nat.le_of_ble_eq_true rfl) eX9_isOnSide_65 (fun z21 e22 => ?_)
      rcases e22 with ⟨rfl, e22⟩ | ⟨rfl, e22⟩
      · skip
        refine AQ.of (AS.if_eq_f eX9_isOnSide_68 ⟨by decide, by decide⟩ (by decide) (by decide)) ?_
        refine q_blk (lv2 := [(0, vr n), (1, vi x), (2, vi y), (3, vi p), (4, vi k)]) (st2 := [vi 1]) kX9_isOnSide_71 rfl ?_
        exact q_rz rfl eX9_isOnSide_72 (by decide) ⟨1, rfl, Or.inl ⟨rfl, p, by omega, by omega, k, by omega, by omega, e22⟩, rfl⟩
      · skip
        refine AQ.of (AS.if_eq_t (tgt := 73) eX9_isOnSide_68 (by decide) ⟨by decide, by decide⟩ (by decide)) ?_
        refine q_blk (lv2 := [(0, vr n), (1, vi x), (2, vi y), (3, vi p), (4, vi (k + 1))]) (st2 := []) kX9_isOnSide_73 rfl ?_
        refine q_goto (tgt := 15) eX9_isOnSide_76 (by decide) ?_
        exact ih4 (k + 1) (⟨⟨by omega, by omega⟩, fun i i0 i1 => by
      by_cases e : i = k
      · subst e; exact e22
      · exact hnk i i0 (by omega)⟩) (by omega)

set_option maxHeartbeats 1000000 in
theorem c_X9_isBlocked {w : am_w} {h : AH} {n : Nat} {th bl tl ps er ea eo ud g0 g1 g2 g3 ns ne se : Int} {D : Int → Int} (hm : MM h n th bl tl ps er ea eo ud g0 g1 g2 g3 ns ne se D) (hD : VD D) {ax ay bx by' : Int} (h_ax : am_c ax) (h_ay : am_c ay) (h_bx : am_c bx) (h_by : am_c by') (rg0 : -1 ≤ g0 ∧ g0 ≤ 100) (rg1 : -1 ≤ g1 ∧ g1 ≤ 100) (rg2 : -1 ≤ g2 ∧ g2 ≤ 100) (rg3 : -1 ≤ g3 ∧ g3 ≤ 100)  : AE w m_X9_isBlocked 5 [vr n, vi ax, vi ay, vi bx, vi by'] h (am_intp h (fun z => am_b z (gm_bs D ax ay bx by' ∨ gm_bc D g0 g3 ax ay bx by'))) := by
  refine AE.of wf_X9_isBlocked (Nat.le_of_ble_eq_true rfl) (am_ok_zp (fun z q => am_bz q)) ?_
  obtain ⟨m0, m1⟩ := id hm
  have d0 := hD.1
  have d1 := hD.2.1
  have d2 := hD.2.2.1
  have d3 := hD.2.2.2.1
  refine q_blk (lv2 := [(0, vr n), (1, vi ax), (2, vi ay), (3, vi bx), (4, vi by'), (5, vi 0)]) (st2 := []) kX9_isBlocked_0 rfl ?_
  refine am_lp1 (I := fun (i : Int) => (0 ≤ i ∧ i ≤ D 2) ∧ ∀ k, 0 ≤ k → k < i → ¬ gm_on ax ay bx by' (sX D k) (sY D k)) (μ := fun (i : Int) => (D 2 - i).toNat) (G := fun (i : Int) => AQ w m_X9_isBlocked 5 3 [(0, vr n), (1, vi ax), (2, vi ay), (3, vi bx), (4, vi by'), (5, vi i)] [] h (am_intp h (fun z => am_b z (gm_bs D ax ay bx by' ∨ gm_bc D g0 g3 ax ay bx by')))) ?_ 0 (⟨⟨by omega, by omega⟩, fun k h0 h1 => by omega⟩)
  intro i hI2 ih1
  obtain ⟨⟨i0, i1⟩, hno⟩ := hI2
  refine q_blk (lv2 := [(0, vr n), (1, vi ax), (2, vi ay), (3, vi bx), (4, vi by'), (5, vi i)]) (st2 := [vr n, vi i]) kX9_isBlocked_3 rfl ?_
  refine q_gr eX9_isBlocked_6 fl_RX9_17 (Or.inr ⟨_, rfl⟩) m0 rfl ?_
  refine q_blk (lv2 := [(0, vr n), (1, vi ax), (2, vi ay), (3, vi bx), (4, vi by'), (5, vi i)]) (st2 := [vi 2, vr (n + 2), vi i]) kX9_isBlocked_9 rfl ?_
  refine q_ia eX9_isBlocked_10 m1 (by decide) (by omega) (by omega) (z := (D 2)) rfl ?_
  refine AQ.ic_ge (tgt := 59) eX9_isBlocked_11 (by decide) (by first | assumption | exact ⟨by omega, by omega⟩) (by first | assumption | exact ⟨by omega, by omega⟩) (fun br3 => ?_) (fun br3 => ?_)
  · skip
    refine q_blk (lv2 := [(0, vr n), (1, vi ax), (2, vi ay), (3, vi bx), (4, vi by'), (5, vi 0)]) (st2 := []) kX9_isBlocked_59 rfl ?_
    refine am_lp1 (I := fun (p : Int) => (0 ≤ p ∧ p ≤ D 3) ∧ ∀ q, 0 ≤ q → q < p → ¬ gm_bk D g0 g3 ax ay bx by' q) (μ := fun (p : Int) => (D 3 - p).toNat) (G := fun (p : Int) => AQ w m_X9_isBlocked 5 62 [(0, vr n), (1, vi ax), (2, vi ay), (3, vi bx), (4, vi by'), (5, vi p)] [] h (am_intp h (fun z => am_b z (gm_bs D ax ay bx by' ∨ gm_bc D g0 g3 ax ay bx by')))) ?_ 0 (⟨⟨by omega, by omega⟩, fun k h0 h1 => by omega⟩)
    intro p hI5 ih4
    obtain ⟨⟨p0, p1⟩, hnp⟩ := hI5
    refine q_blk (lv2 := [(0, vr n), (1, vi ax), (2, vi ay), (3, vi bx), (4, vi by'), (5, vi p)]) (st2 := [vr n, vi p]) kX9_isBlocked_62 rfl ?_
    refine q_gr eX9_isBlocked_65 fl_RX9_17 (Or.inr ⟨_, rfl⟩) m0 rfl ?_
    refine q_blk (lv2 := [(0, vr n), (1, vi ax), (2, vi ay), (3, vi bx), (4, vi by'), (5, vi p)]) (st2 := [vi 3, vr (n + 2), vi p]) kX9_isBlocked_68 rfl ?_
    refine q_ia eX9_isBlocked_69 m1 (by decide) (by omega) (by omega) (z := (D 3)) rfl ?_
    refine AQ.ic_ge (tgt := 146) eX9_isBlocked_70 (by decide) (by first | assumption | exact ⟨by omega, by omega⟩) (by first | assumption | exact ⟨by omega, by omega⟩) (fun br6 => ?_) (fun br6 => ?_)
    · skip
      refine q_blk (lv2 := [(0, vr n), (1, vi ax), (2, vi ay), (3, vi bx), (4, vi by'), (5, vi p)]) (st2 := [vi 0]) kX9_isBlocked_146 rfl ?_
      exact q_rz rfl eX9_isBlocked_147 (by decide) ⟨0, rfl, Or.inr ⟨rfl, fun q => by
        rcases q with ⟨k, k0, k1, k2⟩ | ⟨k, k0, k1, k2⟩
        · exact hno k k0 (by omega) k2
        · exact hnp k k0 (by omega) k2⟩, rfl⟩
    · skip
      have hn := hD.n p0 (by omega)
      refine q_blk (lv2 := [(0, vr n), (1, vi ax), (2, vi ay), (3, vi bx), (4, vi by'), (5, vi p), (6, vi 0)]) (st2 := []) kX9_isBlocked_73 rfl ?_
      refine am_lp1 (I := fun (k : Int) => (0 ≤ k ∧ k ≤ pN D p) ∧ ∀ i, 0 ≤ i → i < k → ¬ (¬ (p = g0 ∧ i = g3) ∧ gm_wi ax ay bx by' (pX D p i) (pY D p i))) (μ := fun (k : Int) => (pN D p - k).toNat) (G := fun (k : Int) => AQ w m_X9_isBlocked 5 76 [(0, vr n), (1, vi ax), (2, vi ay), (3, vi bx), (4, vi by'), (5, vi p), (6, vi k)] [] h (am_intp h (fun z => am_b z (gm_bs D ax ay bx by' ∨ gm_bc D g0 g3 ax ay bx by')))) ?_ 0 (⟨⟨by omega, by omega⟩, fun k h0 h1 => by omega⟩)
      intro k hI8 ih7
      obtain ⟨⟨k0, k1⟩, hnk⟩ := hI8
      refine q_blk (lv2 := [(0, vr n), (1, vi ax), (2, vi ay), (3, vi bx), (4, vi by'), (5, vi p), (6, vi k)]) (st2 := [vi p, vr n, vi k]) kX9_isBlocked_76 rfl ?_
      refine q_Vi (av := [vi p]) (st := [vi k]) (c_X9_countOf hm hD (by omega) (by omega)) lk_RX9_39 (by decide) rfl rfl hm.ob ⟨_, rfl, rfl⟩ (Nat.le_of_ble_eq_true rfl) eX9_isBlocked_81 (fun z9 e10 => ?_)
      subst e10
      refine AQ.ic_ge (tgt := 140) eX9_isBlocked_84 (by decide) (by first | assumption | exact ⟨by omega, by omega⟩) (by first | assumption | exact ⟨by omega, by omega⟩) (fun br11 => ?_) (fun br11 => ?_)
      · skip
        refine q_blk (lv2 := [(0, vr n), (1, vi ax), (2, vi ay), (3, vi bx), (4, vi by'), (5, vi (p + 1)), (6, vi k)]) (st2 := []) kX9_isBlocked_140 rfl ?_
        refine q_goto (tgt := 62) eX9_isBlocked_143 (by decide) ?_
        refine q_sub (lv2 := [(0, vr n), (1, vi ax), (2, vi ay), (3, vi bx), (4, vi by'), (5, vi (p + 1))]) [0, 1, 2, 3, 4, 5] rfl ?_
        exact ih4 (p + 1) (⟨⟨by omega, by omega⟩, fun q q0 q1 => by
      by_cases e : q = p
      · subst e; exact fun ⟨i, i0, i1, i2⟩ => hnk i i0 (by omega) i2
      · exact hnp q q0 (by omega)⟩) (by omega)
      · skip
        refine q_blk (lv2 := [(0, vr n), (1, vi ax), (2, vi ay), (3, vi bx), (4, vi by'), (5, vi p), (6, vi k)]) (st2 := [vr n, vi p]) kX9_isBlocked_87 rfl ?_
        refine q_gi eX9_isBlocked_90 fl_RX9_87 (Or.inl rfl) m0 (z := g0) rfl ?_
        refine AQ.ic_ne (tgt := 105) eX9_isBlocked_93 (by decide) (by first | assumption | exact ⟨by omega, by omega⟩) (by first | assumption | exact ⟨by omega, by omega⟩) (fun br12 => ?_) (fun br12 => ?_)
        · skip
          have hc9 := hD.c p0 (by omega) k0 (by omega)
          obtain ⟨hc8, hc7⟩ := id hc9
          refine q_blk (lv2 := [(0, vr n), (1, vi ax), (2, vi ay), (3, vi bx), (4, vi by'), (5, vi p), (6, vi k)]) (st2 := [vi k, vi p, vr n, vi by', vi bx, vi ay, vi ax]) kX9_isBlocked_105 rfl ?_
          refine q_Vi (av := [vi p, vi k]) (st := [vi by', vi bx, vi ay, vi ax]) (c_X9_xOf hm hD (by omega) (by omega) (by omega) (by omega)) lk_RX9_72 (by decide) rfl rfl hm.ob ⟨_, rfl, rfl⟩ (Nat.le_of_ble_eq_true rfl) eX9_isBlocked_115 (fun z13 e14 => ?_)
          subst e14
          refine q_blk (lv2 := [(0, vr n), (1, vi ax), (2, vi ay), (3, vi bx), (4, vi by'), (5, vi p), (6, vi k)]) (st2 := [vi k, vi p, vr n, vi (pX D p k), vi by', vi bx, vi ay, vi ax]) kX9_isBlocked_118 rfl ?_
          refine q_Vi (av := [vi p, vi k]) (st := [vi (pX D p k), vi by', vi bx, vi ay, vi ax]) (c_X9_yOf hm hD (by omega) (by omega) (by omega) (by omega)) lk_RX9_75 (by decide) rfl rfl hm.ob ⟨_, rfl, rfl⟩ (Nat.le_of_ble_eq_true rfl) eX9_isBlocked_123 (fun z15 e16 => ?_)
          subst e16
          refine q_Si (av := [vi ax, vi ay, vi bx, vi by', vi (pX D p k), vi (pY D p k)]) (st := []) (c_X9_isWithin (by first | assumption | exact ⟨by omega, by omega⟩) (by first | assumption | exact ⟨by omega, by omega⟩) (by first | assumption | exact ⟨by omega, by omega⟩) (by first | assumption | exact ⟨by omega, by omega⟩) (by first | assumption | exact ⟨by omega, by omega⟩) (by first | assumption | exact ⟨by omega, by omega⟩)) lk_RX9_69 (by decide) rfl rfl (Nat.le_of_ble_eq_true rfl) eX9_isBlocked_126 (fun z17 e18 => ?_)
          rcases e18 with ⟨rfl, e18⟩ | ⟨rfl, e18⟩
          · skip
            refine AQ.of (AS.if_eq_f eX9_isBlocked_129 ⟨by decide, by decide⟩ (by decide) (by decide)) ?_
            refine q_blk (lv2 := [(0, vr n), (1, vi ax), (2, vi ay), (3, vi bx), (4, vi by'), (5, vi p), (6, vi k)]) (st2 := [vi 1]) kX9_isBlocked_132 rfl ?_
            exact q_rz rfl eX9_isBlocked_133 (by decide) ⟨1, rfl, Or.inl ⟨rfl, Or.inr ⟨p, by omega, by omega, k, by omega, by omega, by omega, e18⟩⟩, rfl⟩
          · skip
            refine AQ.of (AS.if_eq_t (tgt := 134) eX9_isBlocked_129 (by decide) ⟨by decide, by decide⟩ (by decide)) ?_
            refine q_blk (lv2 := [(0, vr n), (1, vi ax), (2, vi ay), (3, vi bx), (4, vi by'), (5, vi p), (6, vi (k + 1))]) (st2 := []) kX9_isBlocked_134 rfl ?_
            refine q_goto (tgt := 76) eX9_isBlocked_137 (by decide) ?_
            exact ih7 (k + 1) (⟨⟨by omega, by omega⟩, fun i i0 i1 => by
      by_cases e : i = k
      · subst e; exact fun q => e18 q.2
      · exact hnk i i0 (by omega)⟩) (by omega)
        · skip
          refine q_blk (lv2 := [(0, vr n), (1, vi ax), (2, vi ay), (3, vi bx), (4, vi by'), (5, vi p), (6, vi k)]) (st2 := [vr n, vi k]) kX9_isBlocked_96 rfl ?_
          refine q_gi eX9_isBlocked_99 fl_RX9_96 (Or.inl rfl) m0 (z := g3) rfl ?_
          refine AQ.ic_eq (tgt := 134) eX9_isBlocked_102 (by decide) (by first | assumption | exact ⟨by omega, by omega⟩) (by first | assumption | exact ⟨by omega, by omega⟩) (fun br19 => ?_) (fun br19 => ?_)
          · skip
            refine q_blk (lv2 := [(0, vr n), (1, vi ax), (2, vi ay), (3, vi bx), (4, vi by'), (5, vi p), (6, vi (k + 1))]) (st2 := []) kX9_isBlocked_134 rfl ?_
            refine q_goto (tgt := 76) eX9_isBlocked_137 (by decide) ?_
            exact ih7 (k + 1) (⟨⟨by omega, by omega⟩, fun i i0 i1 => by
      by_cases e : i = k
      · subst e; exact fun q => absurd ⟨by omega, by omega⟩ q.1
      · exact hnk i i0 (by omega)⟩) (by omega)
          · skip
            have hc9 := hD.c p0 (by omega) k0 (by omega)
            obtain ⟨hc8, hc7⟩ := id hc9
            refine q_blk (lv2 := [(0, vr n), (1, vi ax), (2, vi ay), (3, vi bx), (4, vi by'), (5, vi p), (6, vi k)]) (st2 := [vi k, vi p, vr n, vi by', vi bx, vi ay, vi ax]) kX9_isBlocked_105 rfl ?_
            refine q_Vi (av := [vi p, vi k]) (st := [vi by', vi bx, vi ay, vi ax]) (c_X9_xOf hm hD (by omega) (by omega) (by omega) (by omega)) lk_RX9_72 (by decide) rfl rfl hm.ob ⟨_, rfl, rfl⟩ (Nat.le_of_ble_eq_true rfl) eX9_isBlocked_115 (fun z20 e21 => ?_)
            subst e21
            refine q_blk (lv2 := [(0, vr n), (1, vi ax), (2, vi ay), (3, vi bx), (4, vi by'), (5, vi p), (6, vi k)]) (st2 := [vi k, vi p, vr n, vi (pX D p k), vi by', vi bx, vi ay, vi ax]) kX9_isBlocked_118 rfl ?_
            refine q_Vi (av := [vi p, vi k]) (st := [vi (pX D p k), vi by', vi bx, vi ay, vi ax]) (c_X9_yOf hm hD (by omega) (by omega) (by omega) (by omega)) lk_RX9_75 (by decide) rfl rfl hm.ob ⟨_, rfl, rfl⟩ (Nat.le_of_ble_eq_true rfl) eX9_isBlocked_123 (fun z22 e23 => ?_)
            subst e23
            refine q_Si (av := [vi ax, vi ay, vi bx, vi by', vi (pX D p k), vi (pY D p k)]) (st := []) (c_X9_isWithin (by first | assumption | exact ⟨by omega, by omega⟩) (by first | assumption | exact ⟨by omega, by omega⟩) (by first | assumption | exact ⟨by omega, by omega⟩) (by first | assumption | exact ⟨by omega, by omega⟩) (by first | assumption | exact ⟨by omega, by omega⟩) (by first | assumption | exact ⟨by omega, by omega⟩)) lk_RX9_69 (by decide) rfl rfl (Nat.le_of_ble_eq_true rfl) eX9_isBlocked_126 (fun z24 e25 => ?_)
            rcases e25 with ⟨rfl, e25⟩ | ⟨rfl, e25⟩
            · skip
              refine AQ.of (AS.if_eq_f eX9_isBlocked_129 ⟨by decide, by decide⟩ (by decide) (by decide)) ?_
              refine q_blk (lv2 := [(0, vr n), (1, vi ax), (2, vi ay), (3, vi bx), (4, vi by'), (5, vi p), (6, vi k)]) (st2 := [vi 1]) kX9_isBlocked_132 rfl ?_
              exact q_rz rfl eX9_isBlocked_133 (by decide) ⟨1, rfl, Or.inl ⟨rfl, Or.inr ⟨p, by omega, by omega, k, by omega, by omega, by omega, e25⟩⟩, rfl⟩
            · skip
              refine AQ.of (AS.if_eq_t (tgt := 134) eX9_isBlocked_129 (by decide) ⟨by decide, by decide⟩ (by decide)) ?_
              refine q_blk (lv2 := [(0, vr n), (1, vi ax), (2, vi ay), (3, vi bx), (4, vi by'), (5, vi p), (6, vi (k + 1))]) (st2 := []) kX9_isBlocked_134 rfl ?_
              refine q_goto (tgt := 76) eX9_isBlocked_137 (by decide) ?_
              exact ih7 (k + 1) (⟨⟨by omega, by omega⟩, fun i i0 i1 => by
      by_cases e : i = k
      · subst e; exact fun q => e25 q.2
      · exact hnk i i0 (by omega)⟩) (by omega)
  · skip
    refine q_blk (lv2 := [(0, vr n), (1, vi ax), (2, vi ay), (3, vi bx), (4, vi by'), (5, vi i)]) (st2 := [vr n, vi by', vi bx, vi ay, vi ax]) kX9_isBlocked_14 rfl ?_
    have hsv := hD.cs i0 (by omega)
    obtain ⟨hs8, hs7⟩ := id hsv
    refine q_gr eX9_isBlocked_20 fl_RX9_17 (Or.inr ⟨_, rfl⟩) m0 rfl ?_
    refine q_blk (lv2 := [(0, vr n), (1, vi ax), (2, vi ay), (3, vi bx), (4, vi by'), (5, vi i)]) (st2 := [vi (6 + (3 * i)), vr (n + 2), vi by', vi bx, vi ay, vi ax]) kX9_isBlocked_23 rfl ?_
    refine q_ia eX9_isBlocked_30 m1 (by decide) (by omega) (by omega) (z := (sX D i)) rfl ?_
    refine q_blk (lv2 := [(0, vr n), (1, vi ax), (2, vi ay), (3, vi bx), (4, vi by'), (5, vi i)]) (st2 := [vr n, vi (sX D i), vi by', vi bx, vi ay, vi ax]) kX9_isBlocked_31 rfl ?_
    refine q_gr eX9_isBlocked_32 fl_RX9_17 (Or.inr ⟨_, rfl⟩) m0 rfl ?_
    refine q_blk (lv2 := [(0, vr n), (1, vi ax), (2, vi ay), (3, vi bx), (4, vi by'), (5, vi i)]) (st2 := [vi ((6 + (3 * i)) + 1), vr (n + 2), vi (sX D i), vi by', vi bx, vi ay, vi ax]) kX9_isBlocked_35 rfl ?_
    refine q_ia eX9_isBlocked_44 m1 (by decide) (by omega) (by omega) (z := (sY D i)) (congrArg D (by omega)) ?_
    refine q_Si (av := [vi ax, vi ay, vi bx, vi by', vi (sX D i), vi (sY D i)]) (st := []) (c_X9_isOn (by first | assumption | exact ⟨by omega, by omega⟩) (by first | assumption | exact ⟨by omega, by omega⟩) (by first | assumption | exact ⟨by omega, by omega⟩) (by first | assumption | exact ⟨by omega, by omega⟩) (by first | assumption | exact ⟨by omega, by omega⟩) (by first | assumption | exact ⟨by omega, by omega⟩)) lk_RX9_61 (by decide) rfl rfl (Nat.le_of_ble_eq_true rfl) eX9_isBlocked_45 (fun z26 e27 => ?_)
    rcases e27 with ⟨rfl, e27⟩ | ⟨rfl, e27⟩
    · skip
      refine AQ.of (AS.if_eq_f eX9_isBlocked_48 ⟨by decide, by decide⟩ (by decide) (by decide)) ?_
      refine q_blk (lv2 := [(0, vr n), (1, vi ax), (2, vi ay), (3, vi bx), (4, vi by'), (5, vi i)]) (st2 := [vi 1]) kX9_isBlocked_51 rfl ?_
      exact q_rz rfl eX9_isBlocked_52 (by decide) ⟨1, rfl, Or.inl ⟨rfl, Or.inl ⟨i, by omega, by omega, e27⟩⟩, rfl⟩
    · skip
      refine AQ.of (AS.if_eq_t (tgt := 53) eX9_isBlocked_48 (by decide) ⟨by decide, by decide⟩ (by decide)) ?_
      refine q_blk (lv2 := [(0, vr n), (1, vi ax), (2, vi ay), (3, vi bx), (4, vi by'), (5, vi (i + 1))]) (st2 := []) kX9_isBlocked_53 rfl ?_
      refine q_goto (tgt := 3) eX9_isBlocked_56 (by decide) ?_
      exact ih1 (i + 1) (⟨⟨by omega, by omega⟩, fun k k0 k1 => by
      by_cases e : k = i
      · subst e; exact e27
      · exact hno k k0 (by omega)⟩) (by omega)

set_option maxHeartbeats 1000000 in
theorem c_X9_isCrossed {w : am_w} {h : AH} {n : Nat} {th bl tl ps er ea eo ud g0 g1 g2 g3 ns ne se : Int} {D : Int → Int} (hm : MM h n th bl tl ps er ea eo ud g0 g1 g2 g3 ns ne se D) (hD : VD D) {ax ay bx by' : Int} (h_ax : am_c ax) (h_ay : am_c ay) (h_bx : am_c bx) (h_by : am_c by') (rg0 : -1 ≤ g0 ∧ g0 ≤ 100) (rg1 : -1 ≤ g1 ∧ g1 ≤ 100) (rg2 : -1 ≤ g2 ∧ g2 ≤ 100) (rg3 : -1 ≤ g3 ∧ g3 ≤ 100)  : AE w m_X9_isCrossed 5 [vr n, vi ax, vi ay, vi bx, vi by'] h (am_intp h (fun z => am_b z (gm_cr D g0 g1 g2 ax ay bx by'))) := by
  refine AE.of wf_X9_isCrossed (Nat.le_of_ble_eq_true rfl) (am_ok_zp (fun z q => am_bz q)) ?_
  obtain ⟨m0, m1⟩ := id hm
  have d0 := hD.1
  have d1 := hD.2.1
  have d2 := hD.2.2.1
  have d3 := hD.2.2.2.1
  refine q_blk (lv2 := [(0, vr n), (1, vi ax), (2, vi ay), (3, vi bx), (4, vi by'), (5, vi 0)]) (st2 := []) kX9_isCrossed_0 rfl ?_
  refine am_lp1 (I := fun (p : Int) => (0 ≤ p ∧ p ≤ D 3) ∧ ∀ q, 0 ≤ q → q < p → ¬ gm_ck D g0 g1 g2 ax ay bx by' q) (μ := fun (p : Int) => (D 3 - p).toNat) (G := fun (p : Int) => AQ w m_X9_isCrossed 5 3 [(0, vr n), (1, vi ax), (2, vi ay), (3, vi bx), (4, vi by'), (5, vi p)] [] h (am_intp h (fun z => am_b z (gm_cr D g0 g1 g2 ax ay bx by')))) ?_ 0 (⟨⟨by omega, by omega⟩, fun k h0 h1 => by omega⟩)
  intro p hI2 ih1
  obtain ⟨⟨p0, p1⟩, hnp⟩ := hI2
  refine q_blk (lv2 := [(0, vr n), (1, vi ax), (2, vi ay), (3, vi bx), (4, vi by'), (5, vi p)]) (st2 := [vr n, vi p]) kX9_isCrossed_3 rfl ?_
  refine q_gr eX9_isCrossed_6 fl_RX9_17 (Or.inr ⟨_, rfl⟩) m0 rfl ?_
  refine q_blk (lv2 := [(0, vr n), (1, vi ax), (2, vi ay), (3, vi bx), (4, vi by'), (5, vi p)]) (st2 := [vi 3, vr (n + 2), vi p]) kX9_isCrossed_9 rfl ?_
  refine q_ia eX9_isCrossed_10 m1 (by decide) (by omega) (by omega) (z := (D 3)) rfl ?_
  refine AQ.ic_ge (tgt := 127) eX9_isCrossed_11 (by decide) (by first | assumption | exact ⟨by omega, by omega⟩) (by first | assumption | exact ⟨by omega, by omega⟩) (fun br3 => ?_) (fun br3 => ?_)
  · skip
    refine q_blk (lv2 := [(0, vr n), (1, vi ax), (2, vi ay), (3, vi bx), (4, vi by'), (5, vi p)]) (st2 := [vi 0]) kX9_isCrossed_127 rfl ?_
    exact q_rz rfl eX9_isCrossed_128 (by decide) ⟨0, rfl, Or.inr ⟨rfl, fun ⟨q, q0, q1, q2⟩ => hnp q q0 (by omega) q2⟩, rfl⟩
  · skip
    have hn := hD.n p0 (by omega)
    have hns : gm_ns (pN D p) (pC D p) = pN D p - 1 ∨ gm_ns (pN D p) (pC D p) = pN D p := by unfold gm_ns; split <;> omega
    refine q_blk (lv2 := [(0, vr n), (1, vi ax), (2, vi ay), (3, vi bx), (4, vi by'), (5, vi p), (6, vi 0)]) (st2 := []) kX9_isCrossed_14 rfl ?_
    refine am_lp1 (I := fun (k : Int) => (0 ≤ k ∧ k ≤ gm_ns (pN D p) (pC D p)) ∧ ∀ i, 0 ≤ i → i < k → ¬ (¬ (p = g0 ∧ (i = g1 ∨ i = g2)) ∧ gm_mt ax ay bx by' (pX D p i) (pY D p i) (pX D p (gm_nx (pN D p) i)) (pY D p (gm_nx (pN D p) i)))) (μ := fun (k : Int) => (gm_ns (pN D p) (pC D p) - k).toNat) (G := fun (k : Int) => AQ w m_X9_isCrossed 5 17 [(0, vr n), (1, vi ax), (2, vi ay), (3, vi bx), (4, vi by'), (5, vi p), (6, vi k)] [] h (am_intp h (fun z => am_b z (gm_cr D g0 g1 g2 ax ay bx by')))) ?_ 0 (⟨⟨by omega, by omega⟩, fun k h0 h1 => by omega⟩)
    intro k hI5 ih4
    obtain ⟨⟨k0, k1⟩, hnk⟩ := hI5
    refine q_blk (lv2 := [(0, vr n), (1, vi ax), (2, vi ay), (3, vi bx), (4, vi by'), (5, vi p), (6, vi k)]) (st2 := [vi p, vr n, vi k]) kX9_isCrossed_17 rfl ?_
    refine q_Vi (av := [vi p]) (st := [vi k]) (c_X9_sidesOf hm hD (by omega) (by omega)) lk_RX9_81 (by decide) rfl rfl hm.ob ⟨_, rfl, rfl⟩ (Nat.le_of_ble_eq_true rfl) eX9_isCrossed_22 (fun z6 e7 => ?_)
    subst e7
    refine AQ.ic_ge (tgt := 121) eX9_isCrossed_25 (by decide) (by first | assumption | exact ⟨by omega, by omega⟩) (by first | assumption | exact ⟨by omega, by omega⟩) (fun br8 => ?_) (fun br8 => ?_)
    · skip
      refine q_blk (lv2 := [(0, vr n), (1, vi ax), (2, vi ay), (3, vi bx), (4, vi by'), (5, vi (p + 1)), (6, vi k)]) (st2 := []) kX9_isCrossed_121 rfl ?_
      refine q_goto (tgt := 3) eX9_isCrossed_124 (by decide) ?_
      refine q_sub (lv2 := [(0, vr n), (1, vi ax), (2, vi ay), (3, vi bx), (4, vi by'), (5, vi (p + 1))]) [0, 1, 2, 3, 4, 5] rfl ?_
      exact ih1 (p + 1) (⟨⟨by omega, by omega⟩, fun q q0 q1 => by
      by_cases e : q = p
      · subst e; exact fun ⟨i, i0, i1, i2⟩ => hnk i i0 (by omega) i2
      · exact hnp q q0 (by omega)⟩) (by omega)
    · skip
      refine q_blk (lv2 := [(0, vr n), (1, vi ax), (2, vi ay), (3, vi bx), (4, vi by'), (5, vi p), (6, vi k)]) (st2 := [vr n, vi p]) kX9_isCrossed_28 rfl ?_
      refine q_gi eX9_isCrossed_31 fl_RX9_87 (Or.inl rfl) m0 (z := g0) rfl ?_
      refine AQ.ic_ne (tgt := 58) eX9_isCrossed_34 (by decide) (by first | assumption | exact ⟨by omega, by omega⟩) (by first | assumption | exact ⟨by omega, by omega⟩) (fun br9 => ?_) (fun br9 => ?_)
      · skip
        have hc9 := hD.c p0 (by omega) k0 (by omega)
        obtain ⟨hc8, hc7⟩ := id hc9
        have nx8 := gm_nx_r (n := pN D p) (k := k) (by omega) (by omega)
        obtain ⟨hc6, hc5⟩ := id (hD.c p0 (by omega) nx8.1 nx8.2)
        refine q_blk (lv2 := [(0, vr n), (1, vi ax), (2, vi ay), (3, vi bx), (4, vi by'), (5, vi p), (6, vi k)]) (st2 := [vi k, vi p, vr n, vi by', vi bx, vi ay, vi ax]) kX9_isCrossed_58 rfl ?_
        refine q_Vi (av := [vi p, vi k]) (st := [vi by', vi bx, vi ay, vi ax]) (c_X9_xOf hm hD (by omega) (by omega) (by omega) (by omega)) lk_RX9_72 (by decide) rfl rfl hm.ob ⟨_, rfl, rfl⟩ (Nat.le_of_ble_eq_true rfl) eX9_isCrossed_68 (fun z10 e11 => ?_)
        subst e11
        refine q_blk (lv2 := [(0, vr n), (1, vi ax), (2, vi ay), (3, vi bx), (4, vi by'), (5, vi p), (6, vi k)]) (st2 := [vi k, vi p, vr n, vi (pX D p k), vi by', vi bx, vi ay, vi ax]) kX9_isCrossed_71 rfl ?_
        refine q_Vi (av := [vi p, vi k]) (st := [vi (pX D p k), vi by', vi bx, vi ay, vi ax]) (c_X9_yOf hm hD (by omega) (by omega) (by omega) (by omega)) lk_RX9_75 (by decide) rfl rfl hm.ob ⟨_, rfl, rfl⟩ (Nat.le_of_ble_eq_true rfl) eX9_isCrossed_76 (fun z12 e13 => ?_)
        subst e13
        refine q_blk (lv2 := [(0, vr n), (1, vi ax), (2, vi ay), (3, vi bx), (4, vi by'), (5, vi p), (6, vi k)]) (st2 := [vi k, vi p, vr n, vi p, vr n, vi (pY D p k), vi (pX D p k), vi by', vi bx, vi ay, vi ax]) kX9_isCrossed_79 rfl ?_
        refine q_Vi (av := [vi p, vi k]) (st := [vi p, vr n, vi (pY D p k), vi (pX D p k), vi by', vi bx, vi ay, vi ax]) (c_X9_behind hm hD (by omega) (by omega) (by omega) (by omega)) lk_RX9_84 (by decide) rfl rfl hm.ob ⟨_, rfl, rfl⟩ (Nat.le_of_ble_eq_true rfl) eX9_isCrossed_87 (fun z14 e15 => ?_)
        subst e15
        have nx9 := gm_nx_r (n := pN D p) (k := k) (by omega) (by omega)
        refine q_Vi (av := [vi p, vi (gm_nx (pN D p) k)]) (st := [vi (pY D p k), vi (pX D p k), vi by', vi bx, vi ay, vi ax]) (c_X9_xOf hm hD (by omega) (by omega) (by omega) (by omega)) lk_RX9_72 (by decide) rfl rfl hm.ob ⟨_, rfl, rfl⟩ (Nat.le_of_ble_eq_true rfl) eX9_isCrossed_90 (fun z16 e17 => ?_)
        subst e17
        refine q_blk (lv2 := [(0, vr n), (1, vi ax), (2, vi ay), (3, vi bx), (4, vi by'), (5, vi p), (6, vi k)]) (st2 := [vi k, vi p, vr n, vi p, vr n, vi (pX D p (gm_nx (pN D p) k)), vi (pY D p k), vi (pX D p k), vi by', vi bx, vi ay, vi ax]) kX9_isCrossed_93 rfl ?_
        refine q_Vi20 (Nat.le_of_ble_eq_true rfl) (av := [vi p, vi k]) (st := [vi p, vr n, vi (pX D p (gm_nx (pN D p) k)), vi (pY D p k), vi (pX D p k), vi by', vi bx, vi ay, vi ax]) (c_X9_behind hm hD (by omega) (by omega) (by omega) (by omega)) lk_RX9_84 (by decide) rfl rfl hm.ob ⟨_, rfl, rfl⟩ (Nat.le_of_ble_eq_true rfl) eX9_isCrossed_101 (fun z18 e19 => ?_)
        subst e19
        have nx9 := gm_nx_r (n := pN D p) (k := k) (by omega) (by omega)
        refine q_Vi (av := [vi p, vi (gm_nx (pN D p) k)]) (st := [vi (pX D p (gm_nx (pN D p) k)), vi (pY D p k), vi (pX D p k), vi by', vi bx, vi ay, vi ax]) (c_X9_yOf hm hD (by omega) (by omega) (by omega) (by omega)) lk_RX9_75 (by decide) rfl rfl hm.ob ⟨_, rfl, rfl⟩ (Nat.le_of_ble_eq_true rfl) eX9_isCrossed_104 (fun z20 e21 => ?_)
        subst e21
        refine q_Si (av := [vi ax, vi ay, vi bx, vi by', vi (pX D p k), vi (pY D p k), vi (pX D p (gm_nx (pN D p) k)), vi (pY D p (gm_nx (pN D p) k))]) (st := []) (c_X9_meet (by first | assumption | exact ⟨by omega, by omega⟩) (by first | assumption | exact ⟨by omega, by omega⟩) (by first | assumption | exact ⟨by omega, by omega⟩) (by first | assumption | exact ⟨by omega, by omega⟩) (by first | assumption | exact ⟨by omega, by omega⟩) (by first | assumption | exact ⟨by omega, by omega⟩) (by first | assumption | exact ⟨by omega, by omega⟩) (by first | assumption | exact ⟨by omega, by omega⟩)) lk_RX9_99 (by decide) rfl rfl (Nat.le_of_ble_eq_true rfl) eX9_isCrossed_107 (fun z22 e23 => ?_)
        rcases e23 with ⟨rfl, e23⟩ | ⟨rfl, e23⟩
        · skip
          refine AQ.of (AS.if_eq_f eX9_isCrossed_110 ⟨by decide, by decide⟩ (by decide) (by decide)) ?_
          refine q_blk (lv2 := [(0, vr n), (1, vi ax), (2, vi ay), (3, vi bx), (4, vi by'), (5, vi p), (6, vi k)]) (st2 := [vi 1]) kX9_isCrossed_113 rfl ?_
          exact q_rz rfl eX9_isCrossed_114 (by decide) ⟨1, rfl, Or.inl ⟨rfl, p, by omega, by omega, k, by omega, by omega, by omega, e23⟩, rfl⟩
        · skip
          refine AQ.of (AS.if_eq_t (tgt := 115) eX9_isCrossed_110 (by decide) ⟨by decide, by decide⟩ (by decide)) ?_
          refine q_blk (lv2 := [(0, vr n), (1, vi ax), (2, vi ay), (3, vi bx), (4, vi by'), (5, vi p), (6, vi (k + 1))]) (st2 := []) kX9_isCrossed_115 rfl ?_
          refine q_goto (tgt := 17) eX9_isCrossed_118 (by decide) ?_
          exact ih4 (k + 1) (⟨⟨by omega, by omega⟩, fun i i0 i1 => by
      by_cases e : i = k
      · subst e; exact fun q => e23 q.2
      · exact hnk i i0 (by omega)⟩) (by omega)
      · skip
        refine q_blk (lv2 := [(0, vr n), (1, vi ax), (2, vi ay), (3, vi bx), (4, vi by'), (5, vi p), (6, vi k)]) (st2 := [vr n, vi k]) kX9_isCrossed_37 rfl ?_
        refine q_gi eX9_isCrossed_40 fl_RX9_90 (Or.inl rfl) m0 (z := g1) rfl ?_
        refine AQ.ic_eq (tgt := 115) eX9_isCrossed_43 (by decide) (by first | assumption | exact ⟨by omega, by omega⟩) (by first | assumption | exact ⟨by omega, by omega⟩) (fun br24 => ?_) (fun br24 => ?_)
        · skip
          refine q_blk (lv2 := [(0, vr n), (1, vi ax), (2, vi ay), (3, vi bx), (4, vi by'), (5, vi p), (6, vi (k + 1))]) (st2 := []) kX9_isCrossed_115 rfl ?_
          refine q_goto (tgt := 17) eX9_isCrossed_118 (by decide) ?_
          exact ih4 (k + 1) (⟨⟨by omega, by omega⟩, fun i i0 i1 => by
      by_cases e : i = k
      · subst e; exact fun q => absurd ⟨by omega, by omega⟩ q.1
      · exact hnk i i0 (by omega)⟩) (by omega)
        · skip
          refine q_blk (lv2 := [(0, vr n), (1, vi ax), (2, vi ay), (3, vi bx), (4, vi by'), (5, vi p), (6, vi k)]) (st2 := [vr n, vi k]) kX9_isCrossed_46 rfl ?_
          refine q_gi eX9_isCrossed_49 fl_RX9_93 (Or.inl rfl) m0 (z := g2) rfl ?_
          refine AQ.ic_ne (tgt := 58) eX9_isCrossed_52 (by decide) (by first | assumption | exact ⟨by omega, by omega⟩) (by first | assumption | exact ⟨by omega, by omega⟩) (fun br25 => ?_) (fun br25 => ?_)
          · skip
            have hc9 := hD.c p0 (by omega) k0 (by omega)
            obtain ⟨hc8, hc7⟩ := id hc9
            have nx8 := gm_nx_r (n := pN D p) (k := k) (by omega) (by omega)
            obtain ⟨hc6, hc5⟩ := id (hD.c p0 (by omega) nx8.1 nx8.2)
            refine q_blk (lv2 := [(0, vr n), (1, vi ax), (2, vi ay), (3, vi bx), (4, vi by'), (5, vi p), (6, vi k)]) (st2 := [vi k, vi p, vr n, vi by', vi bx, vi ay, vi ax]) kX9_isCrossed_58 rfl ?_
            refine q_Vi (av := [vi p, vi k]) (st := [vi by', vi bx, vi ay, vi ax]) (c_X9_xOf hm hD (by omega) (by omega) (by omega) (by omega)) lk_RX9_72 (by decide) rfl rfl hm.ob ⟨_, rfl, rfl⟩ (Nat.le_of_ble_eq_true rfl) eX9_isCrossed_68 (fun z26 e27 => ?_)
            subst e27
            refine q_blk (lv2 := [(0, vr n), (1, vi ax), (2, vi ay), (3, vi bx), (4, vi by'), (5, vi p), (6, vi k)]) (st2 := [vi k, vi p, vr n, vi (pX D p k), vi by', vi bx, vi ay, vi ax]) kX9_isCrossed_71 rfl ?_
            refine q_Vi (av := [vi p, vi k]) (st := [vi (pX D p k), vi by', vi bx, vi ay, vi ax]) (c_X9_yOf hm hD (by omega) (by omega) (by omega) (by omega)) lk_RX9_75 (by decide) rfl rfl hm.ob ⟨_, rfl, rfl⟩ (Nat.le_of_ble_eq_true rfl) eX9_isCrossed_76 (fun z28 e29 => ?_)
            subst e29
            refine q_blk (lv2 := [(0, vr n), (1, vi ax), (2, vi ay), (3, vi bx), (4, vi by'), (5, vi p), (6, vi k)]) (st2 := [vi k, vi p, vr n, vi p, vr n, vi (pY D p k), vi (pX D p k), vi by', vi bx, vi ay, vi ax]) kX9_isCrossed_79 rfl ?_
            refine q_Vi (av := [vi p, vi k]) (st := [vi p, vr n, vi (pY D p k), vi (pX D p k), vi by', vi bx, vi ay, vi ax]) (c_X9_behind hm hD (by omega) (by omega) (by omega) (by omega)) lk_RX9_84 (by decide) rfl rfl hm.ob ⟨_, rfl, rfl⟩ (Nat.le_of_ble_eq_true rfl) eX9_isCrossed_87 (fun z30 e31 => ?_)
            subst e31
            have nx9 := gm_nx_r (n := pN D p) (k := k) (by omega) (by omega)
            refine q_Vi (av := [vi p, vi (gm_nx (pN D p) k)]) (st := [vi (pY D p k), vi (pX D p k), vi by', vi bx, vi ay, vi ax]) (c_X9_xOf hm hD (by omega) (by omega) (by omega) (by omega)) lk_RX9_72 (by decide) rfl rfl hm.ob ⟨_, rfl, rfl⟩ (Nat.le_of_ble_eq_true rfl) eX9_isCrossed_90 (fun z32 e33 => ?_)
            subst e33
            refine q_blk (lv2 := [(0, vr n), (1, vi ax), (2, vi ay), (3, vi bx), (4, vi by'), (5, vi p), (6, vi k)]) (st2 := [vi k, vi p, vr n, vi p, vr n, vi (pX D p (gm_nx (pN D p) k)), vi (pY D p k), vi (pX D p k), vi by', vi bx, vi ay, vi ax]) kX9_isCrossed_93 rfl ?_
            refine q_Vi20 (Nat.le_of_ble_eq_true rfl) (av := [vi p, vi k]) (st := [vi p, vr n, vi (pX D p (gm_nx (pN D p) k)), vi (pY D p k), vi (pX D p k), vi by', vi bx, vi ay, vi ax]) (c_X9_behind hm hD (by omega) (by omega) (by omega) (by omega)) lk_RX9_84 (by decide) rfl rfl hm.ob ⟨_, rfl, rfl⟩ (Nat.le_of_ble_eq_true rfl) eX9_isCrossed_101 (fun z34 e35 => ?_)
            subst e35
            have nx9 := gm_nx_r (n := pN D p) (k := k) (by omega) (by omega)
            refine q_Vi (av := [vi p, vi (gm_nx (pN D p) k)]) (st := [vi (pX D p (gm_nx (pN D p) k)), vi (pY D p k), vi (pX D p k), vi by', vi bx, vi ay, vi ax]) (c_X9_yOf hm hD (by omega) (by omega) (by omega) (by omega)) lk_RX9_75 (by decide) rfl rfl hm.ob ⟨_, rfl, rfl⟩ (Nat.le_of_ble_eq_true rfl) eX9_isCrossed_104 (fun z36 e37 => ?_)
            subst e37
            refine q_Si (av := [vi ax, vi ay, vi bx, vi by', vi (pX D p k), vi (pY D p k), vi (pX D p (gm_nx (pN D p) k)), vi (pY D p (gm_nx (pN D p) k))]) (st := []) (c_X9_meet (by first | assumption | exact ⟨by omega, by omega⟩) (by first | assumption | exact ⟨by omega, by omega⟩) (by first | assumption | exact ⟨by omega, by omega⟩) (by first | assumption | exact ⟨by omega, by omega⟩) (by first | assumption | exact ⟨by omega, by omega⟩) (by first | assumption | exact ⟨by omega, by omega⟩) (by first | assumption | exact ⟨by omega, by omega⟩) (by first | assumption | exact ⟨by omega, by omega⟩)) lk_RX9_99 (by decide) rfl rfl (Nat.le_of_ble_eq_true rfl) eX9_isCrossed_107 (fun z38 e39 => ?_)
            rcases e39 with ⟨rfl, e39⟩ | ⟨rfl, e39⟩
            · skip
              refine AQ.of (AS.if_eq_f eX9_isCrossed_110 ⟨by decide, by decide⟩ (by decide) (by decide)) ?_
              refine q_blk (lv2 := [(0, vr n), (1, vi ax), (2, vi ay), (3, vi bx), (4, vi by'), (5, vi p), (6, vi k)]) (st2 := [vi 1]) kX9_isCrossed_113 rfl ?_
              exact q_rz rfl eX9_isCrossed_114 (by decide) ⟨1, rfl, Or.inl ⟨rfl, p, by omega, by omega, k, by omega, by omega, by omega, e39⟩, rfl⟩
            · skip
              refine AQ.of (AS.if_eq_t (tgt := 115) eX9_isCrossed_110 (by decide) ⟨by decide, by decide⟩ (by decide)) ?_
              refine q_blk (lv2 := [(0, vr n), (1, vi ax), (2, vi ay), (3, vi bx), (4, vi by'), (5, vi p), (6, vi (k + 1))]) (st2 := []) kX9_isCrossed_115 rfl ?_
              refine q_goto (tgt := 17) eX9_isCrossed_118 (by decide) ?_
              exact ih4 (k + 1) (⟨⟨by omega, by omega⟩, fun i i0 i1 => by
      by_cases e : i = k
      · subst e; exact fun q => e39 q.2
      · exact hnk i i0 (by omega)⟩) (by omega)
          · skip
            refine q_goto (tgt := 115) eX9_isCrossed_55 (by decide) ?_
            refine q_blk (lv2 := [(0, vr n), (1, vi ax), (2, vi ay), (3, vi bx), (4, vi by'), (5, vi p), (6, vi (k + 1))]) (st2 := []) kX9_isCrossed_115 rfl ?_
            refine q_goto (tgt := 17) eX9_isCrossed_118 (by decide) ?_
            exact ih4 (k + 1) (⟨⟨by omega, by omega⟩, fun i i0 i1 => by
      by_cases e : i = k
      · subst e; exact fun q => absurd ⟨by omega, by omega⟩ q.1
      · exact hnk i i0 (by omega)⟩) (by omega)

set_option maxHeartbeats 1000000 in
theorem c_X9_lineReason {w : am_w} {h : AH} {n : Nat} {th bl tl ps er ea eo ud g0 g1 g2 g3 ns ne se : Int} {D : Int → Int} (hm : MM h n th bl tl ps er ea eo ud g0 g1 g2 g3 ns ne se D) (hD : VD D) {ax ay bx by' : Int} (h_ax : am_c ax) (h_ay : am_c ay) (h_bx : am_c bx) (h_by : am_c by') (rg0 : -1 ≤ g0 ∧ g0 ≤ 100) (rg1 : -1 ≤ g1 ∧ g1 ≤ 100) (rg2 : -1 ≤ g2 ∧ g2 ≤ 100) (rg3 : -1 ≤ g3 ∧ g3 ≤ 100)  : AE w m_X9_lineReason 6 [vr n, vi ax, vi ay, vi bx, vi by'] h (am_intp h (fun z => gm_lr D g0 g3 g1 g2 ax ay bx by' z)) := by
  refine AE.of wf_X9_lineReason (Nat.le_of_ble_eq_true rfl) (am_ok_ip) ?_
  obtain ⟨m0, m1⟩ := id hm
  have d0 := hD.1
  have d1 := hD.2.1
  have d2 := hD.2.2.1
  have d3 := hD.2.2.2.1
  have h1' := h_ax
  have h2' := h_ay
  have h3' := h_bx
  have h4' := h_by
  refine q_blk (lv2 := [(0, vr n), (1, vi ax), (2, vi ay), (3, vi bx), (4, vi by')]) (st2 := [vi by', vi bx, vi ay, vi ax, vr n]) kX9_lineReason_0 rfl ?_
  refine q_Vi (av := [vi ax, vi ay, vi bx, vi by']) (st := []) (c_X9_isBlocked hm hD h1' h2' h3' h4' rg0 rg1 rg2 rg3) lk_RX9_103 (by decide) rfl rfl hm.ob ⟨_, rfl, rfl⟩ (Nat.le_of_ble_eq_true rfl) eX9_lineReason_6 (fun z1 e2 => ?_)
  rcases e2 with ⟨rfl, e2⟩ | ⟨rfl, e2⟩
  · skip
    refine AQ.of (AS.if_eq_f eX9_lineReason_9 ⟨by decide, by decide⟩ (by decide) (by decide)) ?_
    refine q_blk (lv2 := [(0, vr n), (1, vi ax), (2, vi ay), (3, vi bx), (4, vi by')]) (st2 := [vi 4]) kX9_lineReason_12 rfl ?_
    refine q_goto (tgt := 33) eX9_lineReason_13 (by decide) ?_
    exact q_ri rfl eX9_lineReason_33 ⟨4, rfl, Or.inl ⟨e2, rfl⟩, rfl⟩
  · skip
    refine AQ.of (AS.if_eq_t (tgt := 16) eX9_lineReason_9 (by decide) ⟨by decide, by decide⟩ (by decide)) ?_
    refine q_blk (lv2 := [(0, vr n), (1, vi ax), (2, vi ay), (3, vi bx), (4, vi by')]) (st2 := [vi by', vi bx, vi ay, vi ax, vr n]) kX9_lineReason_16 rfl ?_
    refine q_Vi (av := [vi ax, vi ay, vi bx, vi by']) (st := []) (c_X9_isCrossed hm hD h1' h2' h3' h4' rg0 rg1 rg2 rg3) lk_RX9_107 (by decide) rfl rfl hm.ob ⟨_, rfl, rfl⟩ (Nat.le_of_ble_eq_true rfl) eX9_lineReason_22 (fun z3 e4 => ?_)
    rcases e4 with ⟨rfl, e4⟩ | ⟨rfl, e4⟩
    · skip
      refine AQ.of (AS.if_eq_f eX9_lineReason_25 ⟨by decide, by decide⟩ (by decide) (by decide)) ?_
      refine q_blk (lv2 := [(0, vr n), (1, vi ax), (2, vi ay), (3, vi bx), (4, vi by')]) (st2 := [vi 5]) kX9_lineReason_28 rfl ?_
      refine q_goto (tgt := 33) eX9_lineReason_29 (by decide) ?_
      exact q_ri rfl eX9_lineReason_33 ⟨5, rfl, Or.inr ⟨e2, Or.inl ⟨e4, rfl⟩⟩, rfl⟩
    · skip
      refine AQ.of (AS.if_eq_t (tgt := 32) eX9_lineReason_25 (by decide) ⟨by decide, by decide⟩ (by decide)) ?_
      refine q_blk (lv2 := [(0, vr n), (1, vi ax), (2, vi ay), (3, vi bx), (4, vi by')]) (st2 := [vi 0]) kX9_lineReason_32 rfl ?_
      exact q_ri rfl eX9_lineReason_33 ⟨0, rfl, Or.inr ⟨e2, Or.inr ⟨e4, rfl⟩⟩, rfl⟩
