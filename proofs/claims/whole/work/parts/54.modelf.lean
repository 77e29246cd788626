/-! CornerClaimsModel: reasons; what is told of polygons; claims. -/

set_option maxHeartbeats 1000000 in
theorem c_X9_goes {w : am_w} {h : AH} {n : Nat} {th bl tl ps er ea eo ud g0 g1 g2 g3 ns ne se : Int} {D : Int → Int} (hm : MM h n th bl tl ps er ea eo ud g0 g1 g2 g3 ns ne se D) {a b c d9 : Int}  : AE w m_X9_goes 1 [vr n, vi a, vi b, vi c, vi d9] h (am_unit (fun h1 => MM h1 n th bl tl ps er ea eo ud a b c d9 ns ne se D ∧ am_fr h h1 n (n + 1))) := by
  refine AE.of wf_X9_goes (Nat.le_of_ble_eq_true rfl) (am_ok_v) ?_
  obtain ⟨m0, m1⟩ := id hm
  refine q_blk (lv2 := [(0, vr n), (1, vi a), (2, vi b), (3, vi c), (4, vi d9)]) (st2 := [vi a, vr n]) kX9_goes_0 rfl ?_
  refine q_pi eX9_goes_2 fl_RX9_87 (fun q hq => by cases hq; exact Or.inl rfl) (Or.inl rfl) m0 (Nat.le_of_ble_eq_true rfl) (l2 := [th, 0, bl, tl, ps, er, ea, eo, 0, 0, 0, ud, a, g1, g2, g3, ns, ne, se, 0]) rfl (fun h1 e2 => ?_)
  have k3 := am_at e2
  have k4 := (am_ne e2 (n + 2) (by omega)).trans m1
  refine q_blk (lv2 := [(0, vr n), (1, vi a), (2, vi b), (3, vi c), (4, vi d9)]) (st2 := [vi b, vr n]) kX9_goes_5 rfl ?_
  refine q_pi eX9_goes_7 fl_RX9_90 (fun q hq => by cases hq; exact Or.inl rfl) (Or.inl rfl) k3 (Nat.le_of_ble_eq_true rfl) (l2 := [th, 0, bl, tl, ps, er, ea, eo, 0, 0, 0, ud, a, b, g2, g3, ns, ne, se, 0]) rfl (fun h5 e6 => ?_)
  have k7 := am_at e6
  have k8 := (am_ne e6 (n + 2) (by omega)).trans k4
  refine q_blk (lv2 := [(0, vr n), (1, vi a), (2, vi b), (3, vi c), (4, vi d9)]) (st2 := [vi c, vr n]) kX9_goes_10 rfl ?_
  refine q_pi eX9_goes_12 fl_RX9_93 (fun q hq => by cases hq; exact Or.inl rfl) (Or.inl rfl) k7 (Nat.le_of_ble_eq_true rfl) (l2 := [th, 0, bl, tl, ps, er, ea, eo, 0, 0, 0, ud, a, b, c, g3, ns, ne, se, 0]) rfl (fun h9 e10 => ?_)
  have k11 := am_at e10
  have k12 := (am_ne e10 (n + 2) (by omega)).trans k8
  refine q_blk (lv2 := [(0, vr n), (1, vi a), (2, vi b), (3, vi c), (4, vi d9)]) (st2 := [vi d9, vr n]) kX9_goes_15 rfl ?_
  refine q_pi eX9_goes_18 fl_RX9_96 (fun q hq => by cases hq; exact Or.inl rfl) (Or.inl rfl) k11 (Nat.le_of_ble_eq_true rfl) (l2 := [th, 0, bl, tl, ps, er, ea, eo, 0, 0, 0, ud, a, b, c, d9, ns, ne, se, 0]) rfl (fun h13 e14 => ?_)
  have k15 := am_at e14
  have k16 := (am_ne e14 (n + 2) (by omega)).trans k12
  exact q_rv rfl eX9_goes_21 ⟨rfl, ⟨k15, k16⟩, am_fr.tr (am_fr.tr (am_fr.tr (am_fr.st e2 (by omega) (by omega)) (am_fr.st e6 (by omega) (by omega))) (am_fr.st e10 (by omega) (by omega))) (am_fr.st e14 (by omega) (by omega))⟩

set_option maxHeartbeats 1000000 in
theorem c_X9_cornerReason {w : am_w} {h : AH} {n : Nat} {th bl tl ps er ea eo ud g0 g1 g2 g3 ns ne se : Int} {D : Int → Int} (hm : MM h n th bl tl ps er ea eo ud g0 g1 g2 g3 ns ne se D) (hD : VD D) {p : Int} (p0 : 0 ≤ p) (p1 : p < D 3) {x y : Int} (h_x : am_c x) (h_y : am_c y)  : AE w m_X9_cornerReason 7 [vr n, vi p, vi x, vi y] h (am_int (fun z h1 => gm_rC D p x y z ∧ ∃ a b c d9, MM h1 n th bl tl ps er ea eo ud a b c d9 ns ne se D ∧ am_fr h h1 n (n + 1))) := by
  refine AE.of wf_X9_cornerReason (Nat.le_of_ble_eq_true rfl) (am_ok_i) ?_
  obtain ⟨m0, m1⟩ := id hm
  have d0 := hD.1
  have d1 := hD.2.1
  have d2 := hD.2.2.1
  have d3 := hD.2.2.2.1
  have hn := hD.n p0 p1
  have hcl := hD.cl p0 p1
  have rx := h_x
  have ry := h_y
  unfold am_c at rx ry
  refine q_blk (lv2 := [(0, vr n), (1, vi p), (2, vi x), (3, vi y)]) (st2 := [vi p, vr n]) kX9_cornerReason_0 rfl ?_
  refine q_Vi (av := [vi p]) (st := []) (c_X9_isClosed hm hD (by omega) (by omega)) lk_RX9_42 (by decide) rfl rfl hm.ob ⟨_, rfl, rfl⟩ (Nat.le_of_ble_eq_true rfl) eX9_cornerReason_2 (fun z1 e2 => ?_)
  rcases e2 with ⟨rfl, e2⟩ | ⟨rfl, e2⟩
  · skip
    refine AQ.of (AS.if_eq_f eX9_cornerReason_5 ⟨by decide, by decide⟩ (by decide) (by decide)) ?_
    refine q_blk (lv2 := [(0, vr n), (1, vi p), (2, vi x), (3, vi y)]) (st2 := [vi 1]) kX9_cornerReason_8 rfl ?_
    exact q_ri rfl eX9_cornerReason_9 ⟨1, rfl, Or.inl ⟨by omega, rfl⟩, _, _, _, _, hm, am_fr.rf⟩
  · skip
    refine AQ.of (AS.if_eq_t (tgt := 10) eX9_cornerReason_5 (by decide) ⟨by decide, by decide⟩ (by decide)) ?_
    refine q_blk (lv2 := [(0, vr n), (1, vi p), (2, vi x), (3, vi y)]) (st2 := [vi p, vr n]) kX9_cornerReason_10 rfl ?_
    refine q_Vi (av := [vi p]) (st := []) (c_X9_countOf hm hD (by omega) (by omega)) lk_RX9_39 (by decide) rfl rfl hm.ob ⟨_, rfl, rfl⟩ (Nat.le_of_ble_eq_true rfl) eX9_cornerReason_12 (fun z3 e4 => ?_)
    subst e4
    refine q_blk (lv2 := [(0, vr n), (1, vi p), (2, vi x), (3, vi y)]) (st2 := [vi 12, vi (pN D p)]) kX9_cornerReason_15 rfl ?_
    refine AQ.ic_ne (tgt := 22) eX9_cornerReason_17 (by decide) (by first | assumption | exact ⟨by omega, by omega⟩) ⟨by decide, by decide⟩ (fun br5 => ?_) (fun br5 => ?_)
    · skip
      refine q_blk (lv2 := [(0, vr n), (1, vi p), (2, vi x), (3, vi y)]) (st2 := [vi y, vi x, vr n]) kX9_cornerReason_22 rfl ?_
      refine q_Vi (av := [vi x, vi y]) (st := []) (c_X9_isTaken hm hD h_x h_y) lk_RX9_110 (by decide) rfl rfl hm.ob ⟨_, rfl, rfl⟩ (Nat.le_of_ble_eq_true rfl) eX9_cornerReason_25 (fun z6 e7 => ?_)
      rcases e7 with ⟨rfl, e7⟩ | ⟨rfl, e7⟩
      · skip
        refine AQ.of (AS.if_eq_f eX9_cornerReason_28 ⟨by decide, by decide⟩ (by decide) (by decide)) ?_
        refine q_blk (lv2 := [(0, vr n), (1, vi p), (2, vi x), (3, vi y)]) (st2 := [vi 3]) kX9_cornerReason_31 rfl ?_
        exact q_ri rfl eX9_cornerReason_32 ⟨3, rfl, Or.inr ⟨by omega, Or.inr ⟨by omega, Or.inl ⟨e7, rfl⟩⟩⟩, _, _, _, _, hm, am_fr.rf⟩
      · skip
        refine AQ.of (AS.if_eq_t (tgt := 33) eX9_cornerReason_28 (by decide) ⟨by decide, by decide⟩ (by decide)) ?_
        refine q_blk (lv2 := [(0, vr n), (1, vi p), (2, vi x), (3, vi y)]) (st2 := [vi (-1), vi (-1), vi (-1), vi (-1), vr n]) kX9_cornerReason_33 rfl ?_
        refine AQ.callVv (av := [vi (-1), vi (-1), vi (-1), vi (-1)]) (st := []) (c_X9_goes hm (a := (-1)) (b := (-1)) (c := (-1)) (d9 := (-1))) lk_RX9_113 (by decide) rfl rfl hm.ob ⟨_, rfl, rfl⟩ (Nat.le_of_ble_eq_true rfl) eX9_cornerReason_38 (fun h10 e9 => ?_)
        obtain ⟨Mh10, Fh10⟩ := e9
        obtain ⟨m0h10, m1h10⟩ := id Mh10
        refine q_blk (lv2 := [(0, vr n), (1, vi p), (2, vi x), (3, vi y)]) (st2 := [vi p, vr n]) kX9_cornerReason_41 rfl ?_
        obtain ⟨hc8, hc7⟩ := id (hD.c (k := pN D p - 1) p0 p1 (by omega) (by omega))
        obtain ⟨hc6, hc5⟩ := id (hD.c (k := 0) p0 p1 (by omega) (by omega))
        refine q_Vi (av := [vi p]) (st := []) (c_X9_countOf Mh10 hD (by omega) (by omega)) lk_RX9_39 (by decide) rfl rfl Mh10.ob ⟨_, rfl, rfl⟩ (Nat.le_of_ble_eq_true rfl) eX9_cornerReason_43 (fun z11 e12 => ?_)
        subst e12
        refine q_blk (lv2 := [(0, vr n), (1, vi p), (2, vi x), (3, vi y), (4, vi ((pN D p) - 1))]) (st2 := [vi ((pN D p) - 1), vi p, vr n, vr n]) kX9_cornerReason_46 rfl ?_
        refine q_Vi (av := [vi p, vi ((pN D p) - 1)]) (st := [vr n]) (c_X9_xOf Mh10 hD (by omega) (by omega) (by omega) (by omega)) lk_RX9_72 (by decide) rfl rfl Mh10.ob ⟨_, rfl, rfl⟩ (Nat.le_of_ble_eq_true rfl) eX9_cornerReason_55 (fun z13 e14 => ?_)
        subst e14
        refine q_blk (lv2 := [(0, vr n), (1, vi p), (2, vi x), (3, vi y), (4, vi ((pN D p) - 1))]) (st2 := [vi ((pN D p) - 1), vi p, vr n, vi (pX D p ((pN D p) - 1)), vr n]) kX9_cornerReason_58 rfl ?_
        refine q_Vi (av := [vi p, vi ((pN D p) - 1)]) (st := [vi (pX D p ((pN D p) - 1)), vr n]) (c_X9_yOf Mh10 hD (by omega) (by omega) (by omega) (by omega)) lk_RX9_75 (by decide) rfl rfl Mh10.ob ⟨_, rfl, rfl⟩ (Nat.le_of_ble_eq_true rfl) eX9_cornerReason_62 (fun z15 e16 => ?_)
        subst e16
        refine q_blk (lv2 := [(0, vr n), (1, vi p), (2, vi x), (3, vi y), (4, vi ((pN D p) - 1))]) (st2 := [vi y, vi x, vi (pY D p ((pN D p) - 1)), vi (pX D p ((pN D p) - 1)), vr n]) kX9_cornerReason_65 rfl ?_
        refine q_Vi (av := [vi (pX D p ((pN D p) - 1)), vi (pY D p ((pN D p) - 1)), vi x, vi y]) (st := []) (c_X9_lineReason Mh10 hD (by first | assumption | exact ⟨by omega, by omega⟩) (by first | assumption | exact ⟨by omega, by omega⟩) (by first | assumption | exact ⟨by omega, by omega⟩) (by first | assumption | exact ⟨by omega, by omega⟩) (by omega) (by omega) (by omega) (by omega)) lk_RX9_117 (by decide) rfl rfl Mh10.ob ⟨_, rfl, rfl⟩ (Nat.le_of_ble_eq_true rfl) eX9_cornerReason_67 (fun z17 e18 => ?_)
        have zr9 := gm_lr_r e18
        exact q_ri rfl eX9_cornerReason_70 ⟨z17, rfl, Or.inr ⟨by omega, Or.inr ⟨by omega, Or.inr ⟨e7, e18⟩⟩⟩, _, _, _, _, Mh10, Fh10⟩
    · skip
      refine q_blk (lv2 := [(0, vr n), (1, vi p), (2, vi x), (3, vi y)]) (st2 := [vi 2]) kX9_cornerReason_20 rfl ?_
      exact q_ri rfl eX9_cornerReason_21 ⟨2, rfl, Or.inr ⟨by omega, Or.inl ⟨by omega, rfl⟩⟩, _, _, _, _, hm, am_fr.rf⟩

set_option maxHeartbeats 1000000 in
theorem c_X9_closeReason {w : am_w} {h : AH} {n : Nat} {th bl tl ps er ea eo ud g0 g1 g2 g3 ns ne se : Int} {D : Int → Int} (hm : MM h n th bl tl ps er ea eo ud g0 g1 g2 g3 ns ne se D) (hD : VD D) {p : Int} (p0 : 0 ≤ p) (p1 : p < D 3)  : AE w m_X9_closeReason 7 [vr n, vi p] h (am_int (fun z h1 => gm_rL D p z ∧ ∃ a b c d9, MM h1 n th bl tl ps er ea eo ud a b c d9 ns ne se D ∧ am_fr h h1 n (n + 1))) := by
  refine AE.of wf_X9_closeReason (Nat.le_of_ble_eq_true rfl) (am_ok_i) ?_
  obtain ⟨m0, m1⟩ := id hm
  have d0 := hD.1
  have d1 := hD.2.1
  have d2 := hD.2.2.1
  have d3 := hD.2.2.2.1
  have hn := hD.n p0 p1
  have hcl := hD.cl p0 p1
  refine q_blk (lv2 := [(0, vr n), (1, vi p)]) (st2 := [vi p, vr n]) kX9_closeReason_0 rfl ?_
  refine q_Vi (av := [vi p]) (st := []) (c_X9_isClosed hm hD (by omega) (by omega)) lk_RX9_42 (by decide) rfl rfl hm.ob ⟨_, rfl, rfl⟩ (Nat.le_of_ble_eq_true rfl) eX9_closeReason_2 (fun z1 e2 => ?_)
  rcases e2 with ⟨rfl, e2⟩ | ⟨rfl, e2⟩
  · skip
    refine AQ.of (AS.if_eq_f eX9_closeReason_5 ⟨by decide, by decide⟩ (by decide) (by decide)) ?_
    refine q_blk (lv2 := [(0, vr n), (1, vi p)]) (st2 := [vi 1]) kX9_closeReason_8 rfl ?_
    exact q_ri rfl eX9_closeReason_9 ⟨1, rfl, Or.inl ⟨by omega, rfl⟩, _, _, _, _, hm, am_fr.rf⟩
  · skip
    refine AQ.of (AS.if_eq_t (tgt := 10) eX9_closeReason_5 (by decide) ⟨by decide, by decide⟩ (by decide)) ?_
    refine q_blk (lv2 := [(0, vr n), (1, vi p)]) (st2 := [vi p, vr n]) kX9_closeReason_10 rfl ?_
    refine q_Vi (av := [vi p]) (st := []) (c_X9_countOf hm hD (by omega) (by omega)) lk_RX9_39 (by decide) rfl rfl hm.ob ⟨_, rfl, rfl⟩ (Nat.le_of_ble_eq_true rfl) eX9_closeReason_12 (fun z3 e4 => ?_)
    subst e4
    refine q_blk (lv2 := [(0, vr n), (1, vi p)]) (st2 := [vi 3, vi (pN D p)]) kX9_closeReason_15 rfl ?_
    refine AQ.ic_ge (tgt := 22) eX9_closeReason_16 (by decide) (by first | assumption | exact ⟨by omega, by omega⟩) ⟨by decide, by decide⟩ (fun br5 => ?_) (fun br5 => ?_)
    · skip
      refine q_blk (lv2 := [(0, vr n), (1, vi p)]) (st2 := [vi (-1), vi (-1), vi (-1), vi (-1), vr n]) kX9_closeReason_22 rfl ?_
      refine AQ.callVv (av := [vi (-1), vi (-1), vi (-1), vi (-1)]) (st := []) (c_X9_goes hm (a := (-1)) (b := (-1)) (c := (-1)) (d9 := (-1))) lk_RX9_113 (by decide) rfl rfl hm.ob ⟨_, rfl, rfl⟩ (Nat.le_of_ble_eq_true rfl) eX9_closeReason_27 (fun h8 e7 => ?_)
      obtain ⟨Mh8, Fh8⟩ := e7
      obtain ⟨m0h8, m1h8⟩ := id Mh8
      refine q_blk (lv2 := [(0, vr n), (1, vi p)]) (st2 := [vi p, vr n]) kX9_closeReason_30 rfl ?_
      obtain ⟨hc8, hc7⟩ := id (hD.c (k := pN D p - 1) p0 p1 (by omega) (by omega))
      obtain ⟨hc6, hc5⟩ := id (hD.c (k := 0) p0 p1 (by omega) (by omega))
      refine q_Vi (av := [vi p]) (st := []) (c_X9_countOf Mh8 hD (by omega) (by omega)) lk_RX9_39 (by decide) rfl rfl Mh8.ob ⟨_, rfl, rfl⟩ (Nat.le_of_ble_eq_true rfl) eX9_closeReason_32 (fun z9 e10 => ?_)
      subst e10
      refine q_blk (lv2 := [(0, vr n), (1, vi p), (2, vi ((pN D p) - 1))]) (st2 := [vi ((pN D p) - 1), vi p, vr n, vr n]) kX9_closeReason_35 rfl ?_
      refine q_Vi (av := [vi p, vi ((pN D p) - 1)]) (st := [vr n]) (c_X9_xOf Mh8 hD (by omega) (by omega) (by omega) (by omega)) lk_RX9_72 (by decide) rfl rfl Mh8.ob ⟨_, rfl, rfl⟩ (Nat.le_of_ble_eq_true rfl) eX9_closeReason_42 (fun z11 e12 => ?_)
      subst e12
      refine q_blk (lv2 := [(0, vr n), (1, vi p), (2, vi ((pN D p) - 1))]) (st2 := [vi ((pN D p) - 1), vi p, vr n, vi (pX D p ((pN D p) - 1)), vr n]) kX9_closeReason_45 rfl ?_
      refine q_Vi (av := [vi p, vi ((pN D p) - 1)]) (st := [vi (pX D p ((pN D p) - 1)), vr n]) (c_X9_yOf Mh8 hD (by omega) (by omega) (by omega) (by omega)) lk_RX9_75 (by decide) rfl rfl Mh8.ob ⟨_, rfl, rfl⟩ (Nat.le_of_ble_eq_true rfl) eX9_closeReason_48 (fun z13 e14 => ?_)
      subst e14
      refine q_blk (lv2 := [(0, vr n), (1, vi p), (2, vi ((pN D p) - 1))]) (st2 := [vi 0, vi p, vr n, vi (pY D p ((pN D p) - 1)), vi (pX D p ((pN D p) - 1)), vr n]) kX9_closeReason_51 rfl ?_
      refine q_Vi (av := [vi p, vi 0]) (st := [vi (pY D p ((pN D p) - 1)), vi (pX D p ((pN D p) - 1)), vr n]) (c_X9_xOf Mh8 hD (by omega) (by omega) (by omega) (by omega)) lk_RX9_72 (by decide) rfl rfl Mh8.ob ⟨_, rfl, rfl⟩ (Nat.le_of_ble_eq_true rfl) eX9_closeReason_54 (fun z15 e16 => ?_)
      subst e16
      refine q_blk (lv2 := [(0, vr n), (1, vi p), (2, vi ((pN D p) - 1))]) (st2 := [vi 0, vi p, vr n, vi (pX D p 0), vi (pY D p ((pN D p) - 1)), vi (pX D p ((pN D p) - 1)), vr n]) kX9_closeReason_57 rfl ?_
      refine q_Vi (av := [vi p, vi 0]) (st := [vi (pX D p 0), vi (pY D p ((pN D p) - 1)), vi (pX D p ((pN D p) - 1)), vr n]) (c_X9_yOf Mh8 hD (by omega) (by omega) (by omega) (by omega)) lk_RX9_75 (by decide) rfl rfl Mh8.ob ⟨_, rfl, rfl⟩ (Nat.le_of_ble_eq_true rfl) eX9_closeReason_60 (fun z17 e18 => ?_)
      subst e18
      refine q_Vi (av := [vi (pX D p ((pN D p) - 1)), vi (pY D p ((pN D p) - 1)), vi (pX D p 0), vi (pY D p 0)]) (st := []) (c_X9_lineReason Mh8 hD (by first | assumption | exact ⟨by omega, by omega⟩) (by first | assumption | exact ⟨by omega, by omega⟩) (by first | assumption | exact ⟨by omega, by omega⟩) (by first | assumption | exact ⟨by omega, by omega⟩) (by omega) (by omega) (by omega) (by omega)) lk_RX9_117 (by decide) rfl rfl Mh8.ob ⟨_, rfl, rfl⟩ (Nat.le_of_ble_eq_true rfl) eX9_closeReason_63 (fun z19 e20 => ?_)
      have zr9 := gm_lr_r e20
      exact q_ri rfl eX9_closeReason_66 ⟨z19, rfl, Or.inr ⟨by omega, Or.inr ⟨by omega, e20⟩⟩, _, _, _, _, Mh8, Fh8⟩
    · skip
      refine q_blk (lv2 := [(0, vr n), (1, vi p)]) (st2 := [vi 6]) kX9_closeReason_19 rfl ?_
      exact q_ri rfl eX9_closeReason_21 ⟨6, rfl, Or.inr ⟨by omega, Or.inl ⟨by omega, rfl⟩⟩, _, _, _, _, hm, am_fr.rf⟩

set_option maxHeartbeats 1000000 in
theorem c_X9_bendReason {w : am_w} {h : AH} {n : Nat} {th bl tl ps er ea eo ud g0 g1 g2 g3 ns ne se : Int} {D : Int → Int} (hm : MM h n th bl tl ps er ea eo ud g0 g1 g2 g3 ns ne se D) (hD : VD D) {p : Int} (p0 : 0 ≤ p) (p1 : p < D 3) {k : Int} (k0 : 0 ≤ k) (k1 : k < pN D p) {x y : Int} (h_x : am_c x) (h_y : am_c y)  : AE w m_X9_bendReason 7 [vr n, vi p, vi k, vi x, vi y] h (am_int (fun z h1 => gm_rB D p k x y z ∧ ∃ a b c d9, MM h1 n th bl tl ps er ea eo ud a b c d9 ns ne se D ∧ am_fr h h1 n (n + 1))) := by
  refine AE.of wf_X9_bendReason (Nat.le_of_ble_eq_true rfl) (am_ok_i) ?_
  obtain ⟨m0, m1⟩ := id hm
  have d0 := hD.1
  have d1 := hD.2.1
  have d2 := hD.2.2.1
  have d3 := hD.2.2.2.1
  have hn := hD.n p0 p1
  have hcl := hD.cl p0 p1
  have rx := h_x
  have ry := h_y
  unfold am_c at rx ry
  refine q_blk (lv2 := [(0, vr n), (1, vi p), (2, vi k), (3, vi x), (4, vi y)]) (st2 := [vi p, vr n]) kX9_bendReason_0 rfl ?_
  refine q_Vi (av := [vi p]) (st := []) (c_X9_isClosed hm hD (by omega) (by omega)) lk_RX9_42 (by decide) rfl rfl hm.ob ⟨_, rfl, rfl⟩ (Nat.le_of_ble_eq_true rfl) eX9_bendReason_2 (fun z1 e2 => ?_)
  rcases e2 with ⟨rfl, e2⟩ | ⟨rfl, e2⟩
  · skip
    refine AQ.of (AS.if_ne_t (tgt := 10) eX9_bendReason_5 (by decide) ⟨by decide, by decide⟩ (by decide)) ?_
    refine q_blk (lv2 := [(0, vr n), (1, vi p), (2, vi k), (3, vi x), (4, vi y)]) (st2 := [vi p, vr n]) kX9_bendReason_10 rfl ?_
    refine q_Vi (av := [vi p]) (st := []) (c_X9_countOf hm hD (by omega) (by omega)) lk_RX9_39 (by decide) rfl rfl hm.ob ⟨_, rfl, rfl⟩ (Nat.le_of_ble_eq_true rfl) eX9_bendReason_12 (fun z3 e4 => ?_)
    subst e4
    refine q_blk (lv2 := [(0, vr n), (1, vi p), (2, vi k), (3, vi x), (4, vi y)]) (st2 := [vi 12, vi (pN D p)]) kX9_bendReason_15 rfl ?_
    refine AQ.ic_ne (tgt := 22) eX9_bendReason_17 (by decide) (by first | assumption | exact ⟨by omega, by omega⟩) ⟨by decide, by decide⟩ (fun br5 => ?_) (fun br5 => ?_)
    · skip
      refine q_blk (lv2 := [(0, vr n), (1, vi p), (2, vi k), (3, vi x), (4, vi y)]) (st2 := [vi y, vi x, vr n]) kX9_bendReason_22 rfl ?_
      refine q_Vi (av := [vi x, vi y]) (st := []) (c_X9_isTaken hm hD h_x h_y) lk_RX9_110 (by decide) rfl rfl hm.ob ⟨_, rfl, rfl⟩ (Nat.le_of_ble_eq_true rfl) eX9_bendReason_26 (fun z6 e7 => ?_)
      rcases e7 with ⟨rfl, e7⟩ | ⟨rfl, e7⟩
      · skip
        refine AQ.of (AS.if_eq_f eX9_bendReason_29 ⟨by decide, by decide⟩ (by decide) (by decide)) ?_
        refine q_blk (lv2 := [(0, vr n), (1, vi p), (2, vi k), (3, vi x), (4, vi y)]) (st2 := [vi 3]) kX9_bendReason_32 rfl ?_
        exact q_ri rfl eX9_bendReason_33 ⟨3, rfl, Or.inr ⟨by omega, Or.inr ⟨by omega, Or.inl ⟨e7, rfl⟩⟩⟩, _, _, _, _, hm, am_fr.rf⟩
      · skip
        refine AQ.of (AS.if_eq_t (tgt := 34) eX9_bendReason_29 (by decide) ⟨by decide, by decide⟩ (by decide)) ?_
        refine q_blk (lv2 := [(0, vr n), (1, vi p), (2, vi k), (3, vi x), (4, vi y)]) (st2 := [vi (-1), vi (-1), vi k, vi p, vr n]) kX9_bendReason_34 rfl ?_
        refine AQ.callVv (av := [vi p, vi k, vi (-1), vi (-1)]) (st := []) (c_X9_goes hm (a := p) (b := k) (c := (-1)) (d9 := (-1))) lk_RX9_113 (by decide) rfl rfl hm.ob ⟨_, rfl, rfl⟩ (Nat.le_of_ble_eq_true rfl) eX9_bendReason_39 (fun h10 e9 => ?_)
        obtain ⟨Mh10, Fh10⟩ := e9
        obtain ⟨m0h10, m1h10⟩ := id Mh10
        refine q_blk (lv2 := [(0, vr n), (1, vi p), (2, vi k), (3, vi x), (4, vi y)]) (st2 := [vi k, vi p, vr n]) kX9_bendReason_42 rfl ?_
        obtain ⟨hc8, hc7⟩ := id (hD.c p0 p1 k0 k1)
        have nx8 := gm_nx_r (n := pN D p) (k := k) (by omega) (by omega)
        obtain ⟨hc6, hc5⟩ := id (hD.c p0 p1 nx8.1 nx8.2)
        have pv8 := gm_pv_r (n := pN D p) (k := k) (by omega) (by omega)
        obtain ⟨hc4, hc3⟩ := id (hD.c p0 p1 pv8.1 pv8.2)
        refine q_Vi (av := [vi p, vi k]) (st := []) (c_X9_behind Mh10 hD (by omega) (by omega) (by omega) (by omega)) lk_RX9_84 (by decide) rfl rfl Mh10.ob ⟨_, rfl, rfl⟩ (Nat.le_of_ble_eq_true rfl) eX9_bendReason_45 (fun z11 e12 => ?_)
        subst e12
        have nx9 := gm_nx_r (n := pN D p) (k := k) (by omega) (by omega)
        refine q_blk (lv2 := [(0, vr n), (1, vi p), (2, vi k), (3, vi x), (4, vi y), (5, vi (gm_nx (pN D p) k))]) (st2 := [vi k, vi p, vr n, vr n]) kX9_bendReason_48 rfl ?_
        refine q_Vi (av := [vi p, vi k]) (st := [vr n]) (c_X9_xOf Mh10 hD (by omega) (by omega) (by omega) (by omega)) lk_RX9_72 (by decide) rfl rfl Mh10.ob ⟨_, rfl, rfl⟩ (Nat.le_of_ble_eq_true rfl) eX9_bendReason_54 (fun z13 e14 => ?_)
        subst e14
        refine q_blk (lv2 := [(0, vr n), (1, vi p), (2, vi k), (3, vi x), (4, vi y), (5, vi (gm_nx (pN D p) k))]) (st2 := [vi k, vi p, vr n, vi (pX D p k), vr n]) kX9_bendReason_57 rfl ?_
        refine q_Vi (av := [vi p, vi k]) (st := [vi (pX D p k), vr n]) (c_X9_yOf Mh10 hD (by omega) (by omega) (by omega) (by omega)) lk_RX9_75 (by decide) rfl rfl Mh10.ob ⟨_, rfl, rfl⟩ (Nat.le_of_ble_eq_true rfl) eX9_bendReason_60 (fun z15 e16 => ?_)
        subst e16
        refine q_blk (lv2 := [(0, vr n), (1, vi p), (2, vi k), (3, vi x), (4, vi y), (5, vi (gm_nx (pN D p) k))]) (st2 := [vi y, vi x, vi (pY D p k), vi (pX D p k), vr n]) kX9_bendReason_63 rfl ?_
        refine q_Vi (av := [vi (pX D p k), vi (pY D p k), vi x, vi y]) (st := []) (c_X9_lineReason Mh10 hD (by first | assumption | exact ⟨by omega, by omega⟩) (by first | assumption | exact ⟨by omega, by omega⟩) (by first | assumption | exact ⟨by omega, by omega⟩) (by first | assumption | exact ⟨by omega, by omega⟩) (by omega) (by omega) (by omega) (by omega)) lk_RX9_117 (by decide) rfl rfl Mh10.ob ⟨_, rfl, rfl⟩ (Nat.le_of_ble_eq_true rfl) eX9_bendReason_66 (fun z17 e18 => ?_)
        have zr9 := gm_lr_r e18
        refine q_blk (lv2 := [(0, vr n), (1, vi p), (2, vi k), (3, vi x), (4, vi y), (5, vi (gm_nx (pN D p) k)), (6, vi z17)]) (st2 := [vi z17]) kX9_bendReason_69 rfl ?_
        refine AQ.if_le (tgt := 81) eX9_bendReason_73 (by decide) (by first | assumption | exact ⟨by omega, by omega⟩) (fun br19 => ?_) (fun br19 => ?_)
        · skip
          refine q_blk (lv2 := [(0, vr n), (1, vi p), (2, vi k), (3, vi x), (4, vi y), (5, vi (gm_nx (pN D p) k)), (6, vi z17)]) (st2 := [vi (gm_nx (pN D p) k), vi p, vr n, vr n]) kX9_bendReason_81 rfl ?_
          refine q_Vi (av := [vi p, vi (gm_nx (pN D p) k)]) (st := [vr n]) (c_X9_xOf Mh10 hD (by omega) (by omega) (by omega) (by omega)) lk_RX9_72 (by decide) rfl rfl Mh10.ob ⟨_, rfl, rfl⟩ (Nat.le_of_ble_eq_true rfl) eX9_bendReason_86 (fun z20 e21 => ?_)
          subst e21
          refine q_blk (lv2 := [(0, vr n), (1, vi p), (2, vi k), (3, vi x), (4, vi y), (5, vi (gm_nx (pN D p) k)), (6, vi z17)]) (st2 := [vi (gm_nx (pN D p) k), vi p, vr n, vi (pX D p (gm_nx (pN D p) k)), vr n]) kX9_bendReason_89 rfl ?_
          refine q_Vi (av := [vi p, vi (gm_nx (pN D p) k)]) (st := [vi (pX D p (gm_nx (pN D p) k)), vr n]) (c_X9_yOf Mh10 hD (by omega) (by omega) (by omega) (by omega)) lk_RX9_75 (by decide) rfl rfl Mh10.ob ⟨_, rfl, rfl⟩ (Nat.le_of_ble_eq_true rfl) eX9_bendReason_93 (fun z22 e23 => ?_)
          subst e23
          refine q_blk (lv2 := [(0, vr n), (1, vi p), (2, vi k), (3, vi x), (4, vi y), (5, vi (gm_nx (pN D p) k)), (6, vi z17)]) (st2 := [vi y, vi x, vi (pY D p (gm_nx (pN D p) k)), vi (pX D p (gm_nx (pN D p) k)), vr n]) kX9_bendReason_96 rfl ?_
          refine q_Vi (av := [vi (pX D p (gm_nx (pN D p) k)), vi (pY D p (gm_nx (pN D p) k)), vi x, vi y]) (st := []) (c_X9_lineReason Mh10 hD (by first | assumption | exact ⟨by omega, by omega⟩) (by first | assumption | exact ⟨by omega, by omega⟩) (by first | assumption | exact ⟨by omega, by omega⟩) (by first | assumption | exact ⟨by omega, by omega⟩) (by omega) (by omega) (by omega) (by omega)) lk_RX9_117 (by decide) rfl rfl Mh10.ob ⟨_, rfl, rfl⟩ (Nat.le_of_ble_eq_true rfl) eX9_bendReason_99 (fun z24 e25 => ?_)
          have zr9 := gm_lr_r e25
          exact q_ri rfl eX9_bendReason_102 ⟨z24, rfl, Or.inr ⟨by omega, Or.inr ⟨by omega, Or.inr ⟨e7, _, e18, Or.inr ⟨by omega, e25⟩⟩⟩⟩, _, _, _, _, Mh10, Fh10⟩
        · skip
          refine q_blk (lv2 := [(0, vr n), (1, vi p), (2, vi k), (3, vi x), (4, vi y), (5, vi (gm_nx (pN D p) k)), (6, vi z17)]) (st2 := [vi z17]) kX9_bendReason_76 rfl ?_
          refine q_goto (tgt := 102) eX9_bendReason_78 (by decide) ?_
          exact q_ri rfl eX9_bendReason_102 ⟨z17, rfl, Or.inr ⟨by omega, Or.inr ⟨by omega, Or.inr ⟨e7, _, e18, Or.inl ⟨by omega, rfl⟩⟩⟩⟩, _, _, _, _, Mh10, Fh10⟩
    · skip
      refine q_blk (lv2 := [(0, vr n), (1, vi p), (2, vi k), (3, vi x), (4, vi y)]) (st2 := [vi 2]) kX9_bendReason_20 rfl ?_
      exact q_ri rfl eX9_bendReason_21 ⟨2, rfl, Or.inr ⟨by omega, Or.inl ⟨by omega, rfl⟩⟩, _, _, _, _, hm, am_fr.rf⟩
  · skip
    refine AQ.of (AS.if_ne_f eX9_bendReason_5 ⟨by decide, by decide⟩ (by decide) (by decide)) ?_
    refine q_blk (lv2 := [(0, vr n), (1, vi p), (2, vi k), (3, vi x), (4, vi y)]) (st2 := [vi 1]) kX9_bendReason_8 rfl ?_
    exact q_ri rfl eX9_bendReason_9 ⟨1, rfl, Or.inl ⟨by omega, rfl⟩, _, _, _, _, hm, am_fr.rf⟩

set_option maxHeartbeats 1000000 in
theorem c_X9_outReason {w : am_w} {h : AH} {n : Nat} {th bl tl ps er ea eo ud g0 g1 g2 g3 ns ne se : Int} {D : Int → Int} (hm : MM h n th bl tl ps er ea eo ud g0 g1 g2 g3 ns ne se D) (hD : VD D) {p : Int} (p0 : 0 ≤ p) (p1 : p < D 3) {k : Int} (k0 : 0 ≤ k) (k1 : k < pN D p)  : AE w m_X9_outReason 7 [vr n, vi p, vi k] h (am_int (fun z h1 => gm_rT D p k z ∧ ∃ a b c d9, MM h1 n th bl tl ps er ea eo ud a b c d9 ns ne se D ∧ am_fr h h1 n (n + 1))) := by
  refine AE.of wf_X9_outReason (Nat.le_of_ble_eq_true rfl) (am_ok_i) ?_
  obtain ⟨m0, m1⟩ := id hm
  have d0 := hD.1
  have d1 := hD.2.1
  have d2 := hD.2.2.1
  have d3 := hD.2.2.2.1
  have hn := hD.n p0 p1
  have hcl := hD.cl p0 p1
  refine q_blk (lv2 := [(0, vr n), (1, vi p), (2, vi k)]) (st2 := [vi p, vr n]) kX9_outReason_0 rfl ?_
  refine q_Vi (av := [vi p]) (st := []) (c_X9_isClosed hm hD (by omega) (by omega)) lk_RX9_42 (by decide) rfl rfl hm.ob ⟨_, rfl, rfl⟩ (Nat.le_of_ble_eq_true rfl) eX9_outReason_2 (fun z1 e2 => ?_)
  rcases e2 with ⟨rfl, e2⟩ | ⟨rfl, e2⟩
  · skip
    refine AQ.of (AS.if_ne_t (tgt := 10) eX9_outReason_5 (by decide) ⟨by decide, by decide⟩ (by decide)) ?_
    refine q_blk (lv2 := [(0, vr n), (1, vi p), (2, vi k)]) (st2 := [vi p, vr n]) kX9_outReason_10 rfl ?_
    refine q_Vi (av := [vi p]) (st := []) (c_X9_countOf hm hD (by omega) (by omega)) lk_RX9_39 (by decide) rfl rfl hm.ob ⟨_, rfl, rfl⟩ (Nat.le_of_ble_eq_true rfl) eX9_outReason_12 (fun z3 e4 => ?_)
    subst e4
    refine q_blk (lv2 := [(0, vr n), (1, vi p), (2, vi k)]) (st2 := [vi 3, vi (pN D p)]) kX9_outReason_15 rfl ?_
    refine AQ.ic_ne (tgt := 22) eX9_outReason_16 (by decide) (by first | assumption | exact ⟨by omega, by omega⟩) ⟨by decide, by decide⟩ (fun br5 => ?_) (fun br5 => ?_)
    · skip
      refine q_blk (lv2 := [(0, vr n), (1, vi p), (2, vi k)]) (st2 := [vi k, vi p, vr n]) kX9_outReason_22 rfl ?_
      obtain ⟨hc8, hc7⟩ := id (hD.c p0 p1 k0 k1)
      have nx8 := gm_nx_r (n := pN D p) (k := k) (by omega) (by omega)
      obtain ⟨hc6, hc5⟩ := id (hD.c p0 p1 nx8.1 nx8.2)
      have pv8 := gm_pv_r (n := pN D p) (k := k) (by omega) (by omega)
      obtain ⟨hc4, hc3⟩ := id (hD.c p0 p1 pv8.1 pv8.2)
      refine q_Vi (av := [vi p, vi k]) (st := []) (c_X9_ahead hm hD (by omega) (by omega) (by omega) (by omega)) lk_RX9_121 (by decide) rfl rfl hm.ob ⟨_, rfl, rfl⟩ (Nat.le_of_ble_eq_true rfl) eX9_outReason_25 (fun z6 e7 => ?_)
      subst e7
      have pv9 := gm_pv_r (n := pN D p) (k := k) (by omega) (by omega)
      refine q_blk (lv2 := [(0, vr n), (1, vi p), (2, vi k), (3, vi (gm_pv (pN D p) k))]) (st2 := [vi k, vi p, vr n]) kX9_outReason_28 rfl ?_
      refine q_Vi (av := [vi p, vi k]) (st := []) (c_X9_behind hm hD (by omega) (by omega) (by omega) (by omega)) lk_RX9_84 (by decide) rfl rfl hm.ob ⟨_, rfl, rfl⟩ (Nat.le_of_ble_eq_true rfl) eX9_outReason_32 (fun z8 e9 => ?_)
      subst e9
      have nx9 := gm_nx_r (n := pN D p) (k := k) (by omega) (by omega)
      refine q_blk (lv2 := [(0, vr n), (1, vi p), (2, vi k), (3, vi (gm_pv (pN D p) k)), (4, vi (gm_nx (pN D p) k))]) (st2 := [vi k, vi k, vi (gm_pv (pN D p) k), vi p, vr n]) kX9_outReason_35 rfl ?_
      refine AQ.callVv (av := [vi p, vi (gm_pv (pN D p) k), vi k, vi k]) (st := []) (c_X9_goes hm (a := p) (b := (gm_pv (pN D p) k)) (c := k) (d9 := k)) lk_RX9_113 (by decide) rfl rfl hm.ob ⟨_, rfl, rfl⟩ (Nat.le_of_ble_eq_true rfl) eX9_outReason_42 (fun h12 e11 => ?_)
      obtain ⟨Mh12, Fh12⟩ := e11
      obtain ⟨m0h12, m1h12⟩ := id Mh12
      refine q_blk (lv2 := [(0, vr n), (1, vi p), (2, vi k), (3, vi (gm_pv (pN D p) k)), (4, vi (gm_nx (pN D p) k))]) (st2 := [vi (gm_pv (pN D p) k), vi p, vr n, vr n]) kX9_outReason_45 rfl ?_
      refine q_Vi (av := [vi p, vi (gm_pv (pN D p) k)]) (st := [vr n]) (c_X9_xOf Mh12 hD (by omega) (by omega) (by omega) (by omega)) lk_RX9_72 (by decide) rfl rfl Mh12.ob ⟨_, rfl, rfl⟩ (Nat.le_of_ble_eq_true rfl) eX9_outReason_49 (fun z13 e14 => ?_)
      subst e14
      refine q_blk (lv2 := [(0, vr n), (1, vi p), (2, vi k), (3, vi (gm_pv (pN D p) k)), (4, vi (gm_nx (pN D p) k))]) (st2 := [vi (gm_pv (pN D p) k), vi p, vr n, vi (pX D p (gm_pv (pN D p) k)), vr n]) kX9_outReason_52 rfl ?_
      refine q_Vi (av := [vi p, vi (gm_pv (pN D p) k)]) (st := [vi (pX D p (gm_pv (pN D p) k)), vr n]) (c_X9_yOf Mh12 hD (by omega) (by omega) (by omega) (by omega)) lk_RX9_75 (by decide) rfl rfl Mh12.ob ⟨_, rfl, rfl⟩ (Nat.le_of_ble_eq_true rfl) eX9_outReason_55 (fun z15 e16 => ?_)
      subst e16
      refine q_blk (lv2 := [(0, vr n), (1, vi p), (2, vi k), (3, vi (gm_pv (pN D p) k)), (4, vi (gm_nx (pN D p) k))]) (st2 := [vi (gm_nx (pN D p) k), vi p, vr n, vi (pY D p (gm_pv (pN D p) k)), vi (pX D p (gm_pv (pN D p) k)), vr n]) kX9_outReason_58 rfl ?_
      refine q_Vi (av := [vi p, vi (gm_nx (pN D p) k)]) (st := [vi (pY D p (gm_pv (pN D p) k)), vi (pX D p (gm_pv (pN D p) k)), vr n]) (c_X9_xOf Mh12 hD (by omega) (by omega) (by omega) (by omega)) lk_RX9_72 (by decide) rfl rfl Mh12.ob ⟨_, rfl, rfl⟩ (Nat.le_of_ble_eq_true rfl) eX9_outReason_62 (fun z17 e18 => ?_)
      subst e18
      refine q_blk (lv2 := [(0, vr n), (1, vi p), (2, vi k), (3, vi (gm_pv (pN D p) k)), (4, vi (gm_nx (pN D p) k))]) (st2 := [vi (gm_nx (pN D p) k), vi p, vr n, vi (pX D p (gm_nx (pN D p) k)), vi (pY D p (gm_pv (pN D p) k)), vi (pX D p (gm_pv (pN D p) k)), vr n]) kX9_outReason_65 rfl ?_
      refine q_Vi (av := [vi p, vi (gm_nx (pN D p) k)]) (st := [vi (pX D p (gm_nx (pN D p) k)), vi (pY D p (gm_pv (pN D p) k)), vi (pX D p (gm_pv (pN D p) k)), vr n]) (c_X9_yOf Mh12 hD (by omega) (by omega) (by omega) (by omega)) lk_RX9_75 (by decide) rfl rfl Mh12.ob ⟨_, rfl, rfl⟩ (Nat.le_of_ble_eq_true rfl) eX9_outReason_69 (fun z19 e20 => ?_)
      subst e20
      refine q_Vi (av := [vi (pX D p (gm_pv (pN D p) k)), vi (pY D p (gm_pv (pN D p) k)), vi (pX D p (gm_nx (pN D p) k)), vi (pY D p (gm_nx (pN D p) k))]) (st := []) (c_X9_lineReason Mh12 hD (by first | assumption | exact ⟨by omega, by omega⟩) (by first | assumption | exact ⟨by omega, by omega⟩) (by first | assumption | exact ⟨by omega, by omega⟩) (by first | assumption | exact ⟨by omega, by omega⟩) (by omega) (by omega) (by omega) (by omega)) lk_RX9_117 (by decide) rfl rfl Mh12.ob ⟨_, rfl, rfl⟩ (Nat.le_of_ble_eq_true rfl) eX9_outReason_72 (fun z21 e22 => ?_)
      have zr9 := gm_lr_r e22
      exact q_ri rfl eX9_outReason_75 ⟨z21, rfl, Or.inr ⟨by omega, Or.inr ⟨by omega, e22⟩⟩, _, _, _, _, Mh12, Fh12⟩
    · skip
      refine q_blk (lv2 := [(0, vr n), (1, vi p), (2, vi k)]) (st2 := [vi 6]) kX9_outReason_19 rfl ?_
      exact q_ri rfl eX9_outReason_21 ⟨6, rfl, Or.inr ⟨by omega, Or.inl ⟨by omega, rfl⟩⟩, _, _, _, _, hm, am_fr.rf⟩
  · skip
    refine AQ.of (AS.if_ne_f eX9_outReason_5 ⟨by decide, by decide⟩ (by decide) (by decide)) ?_
    refine q_blk (lv2 := [(0, vr n), (1, vi p), (2, vi k)]) (st2 := [vi 1]) kX9_outReason_8 rfl ?_
    exact q_ri rfl eX9_outReason_9 ⟨1, rfl, Or.inl ⟨by omega, rfl⟩, _, _, _, _, hm, am_fr.rf⟩

set_option maxHeartbeats 1000000 in
theorem c_X9_doubled {w : am_w} {h : AH} {n : Nat} {th bl tl ps er ea eo ud g0 g1 g2 g3 ns ne se : Int} {D : Int → Int} (hm : MM h n th bl tl ps er ea eo ud g0 g1 g2 g3 ns ne se D) (hD : VD D) {p : Int} (p0 : 0 ≤ p) (p1 : p < D 3)  : AE w m_X9_doubled 4 [vr n, vi p] h (am_intp h (fun z => z = gm_ar (pN D p) (pX D p) (pY D p) ∧ -21600 ≤ z ∧ z ≤ 21600)) := by
  refine AE.of wf_X9_doubled (Nat.le_of_ble_eq_true rfl) (am_ok_ip) ?_
  obtain ⟨m0, m1⟩ := id hm
  have d0 := hD.1
  have d1 := hD.2.1
  have d2 := hD.2.2.1
  have d3 := hD.2.2.2.1
  have hn := hD.n p0 p1
  have hcl := hD.cl p0 p1
  refine q_blk (lv2 := [(0, vr n), (1, vi p), (2, vi 0), (3, vi 0)]) (st2 := []) kX9_doubled_0 rfl ?_
  refine am_lp2 (I := fun (s : Int) (k : Int) => (0 ≤ k ∧ k ≤ pN D p) ∧ s = gm_sm (gm_cr2 (pN D p) (pX D p) (pY D p)) k.toNat ∧ (-(1800 * k) ≤ s ∧ s ≤ 1800 * k)) (μ := fun (s : Int) (k : Int) => (pN D p - k).toNat) (G := fun (s : Int) (k : Int) => AQ w m_X9_doubled 4 4 [(0, vr n), (1, vi p), (2, vi s), (3, vi k)] [] h (am_intp h (fun z => z = gm_ar (pN D p) (pX D p) (pY D p) ∧ -21600 ≤ z ∧ z ≤ 21600))) ?_ 0 0 (⟨⟨by omega, by omega⟩, rfl, ⟨by omega, by omega⟩⟩)
  intro s k hI2 ih1
  obtain ⟨⟨k0, k1⟩, hs, hr⟩ := hI2
  refine q_blk (lv2 := [(0, vr n), (1, vi p), (2, vi s), (3, vi k)]) (st2 := [vi p, vr n, vi k]) kX9_doubled_4 rfl ?_
  refine q_Vi (av := [vi p]) (st := [vi k]) (c_X9_countOf hm hD (by omega) (by omega)) lk_RX9_39 (by decide) rfl rfl hm.ob ⟨_, rfl, rfl⟩ (Nat.le_of_ble_eq_true rfl) eX9_doubled_7 (fun z3 e4 => ?_)
  subst e4
  refine AQ.ic_ge (tgt := 61) eX9_doubled_10 (by decide) (by first | assumption | exact ⟨by omega, by omega⟩) (by first | assumption | exact ⟨by omega, by omega⟩) (fun br5 => ?_) (fun br5 => ?_)
  · skip
    refine q_blk (lv2 := [(0, vr n), (1, vi p), (2, vi s), (3, vi k)]) (st2 := [vi s]) kX9_doubled_61 rfl ?_
    exact q_ri rfl eX9_doubled_62 ⟨s, rfl, ⟨by unfold gm_ar; rw [hs, show k = pN D p by omega], by omega, by omega⟩, rfl⟩
  · skip
    refine q_blk (lv2 := [(0, vr n), (1, vi p), (2, vi s), (3, vi k)]) (st2 := [vi k, vi p, vr n, vi 0, vi 0, vi s]) kX9_doubled_13 rfl ?_
    have zc9 : am_c 0 := ⟨by decide, by decide⟩
    have hc9 := hD.c p0 (by omega) k0 (by omega)
    obtain ⟨hc8, hc7⟩ := id hc9
    have nx8 := gm_nx_r (n := pN D p) (k := k) (by omega) (by omega)
    obtain ⟨hc6, hc5⟩ := id (hD.c p0 (by omega) nx8.1 nx8.2)
    refine q_Vi (av := [vi p, vi k]) (st := [vi 0, vi 0, vi s]) (c_X9_xOf hm hD (by omega) (by omega) (by omega) (by omega)) lk_RX9_72 (by decide) rfl rfl hm.ob ⟨_, rfl, rfl⟩ (Nat.le_of_ble_eq_true rfl) eX9_doubled_19 (fun z6 e7 => ?_)
    subst e7
    refine q_blk (lv2 := [(0, vr n), (1, vi p), (2, vi s), (3, vi k)]) (st2 := [vi k, vi p, vr n, vi (pX D p k), vi 0, vi 0, vi s]) kX9_doubled_22 rfl ?_
    refine q_Vi (av := [vi p, vi k]) (st := [vi (pX D p k), vi 0, vi 0, vi s]) (c_X9_yOf hm hD (by omega) (by omega) (by omega) (by omega)) lk_RX9_75 (by decide) rfl rfl hm.ob ⟨_, rfl, rfl⟩ (Nat.le_of_ble_eq_true rfl) eX9_doubled_25 (fun z8 e9 => ?_)
    subst e9
    refine q_blk (lv2 := [(0, vr n), (1, vi p), (2, vi s), (3, vi k)]) (st2 := [vi k, vi p, vr n, vi p, vr n, vi (pY D p k), vi (pX D p k), vi 0, vi 0, vi s]) kX9_doubled_28 rfl ?_
    refine q_Vi (av := [vi p, vi k]) (st := [vi p, vr n, vi (pY D p k), vi (pX D p k), vi 0, vi 0, vi s]) (c_X9_behind hm hD (by omega) (by omega) (by omega) (by omega)) lk_RX9_84 (by decide) rfl rfl hm.ob ⟨_, rfl, rfl⟩ (Nat.le_of_ble_eq_true rfl) eX9_doubled_33 (fun z10 e11 => ?_)
    subst e11
    have nx9 := gm_nx_r (n := pN D p) (k := k) (by omega) (by omega)
    refine q_Vi (av := [vi p, vi (gm_nx (pN D p) k)]) (st := [vi (pY D p k), vi (pX D p k), vi 0, vi 0, vi s]) (c_X9_xOf hm hD (by omega) (by omega) (by omega) (by omega)) lk_RX9_72 (by decide) rfl rfl hm.ob ⟨_, rfl, rfl⟩ (Nat.le_of_ble_eq_true rfl) eX9_doubled_36 (fun z12 e13 => ?_)
    subst e13
    refine q_blk (lv2 := [(0, vr n), (1, vi p), (2, vi s), (3, vi k)]) (st2 := [vi k, vi p, vr n, vi p, vr n, vi (pX D p (gm_nx (pN D p) k)), vi (pY D p k), vi (pX D p k), vi 0, vi 0, vi s]) kX9_doubled_39 rfl ?_
    refine q_Vi (av := [vi p, vi k]) (st := [vi p, vr n, vi (pX D p (gm_nx (pN D p) k)), vi (pY D p k), vi (pX D p k), vi 0, vi 0, vi s]) (c_X9_behind hm hD (by omega) (by omega) (by omega) (by omega)) lk_RX9_84 (by decide) rfl rfl hm.ob ⟨_, rfl, rfl⟩ (Nat.le_of_ble_eq_true rfl) eX9_doubled_44 (fun z14 e15 => ?_)
    subst e15
    have nx9 := gm_nx_r (n := pN D p) (k := k) (by omega) (by omega)
    refine q_Vi (av := [vi p, vi (gm_nx (pN D p) k)]) (st := [vi (pX D p (gm_nx (pN D p) k)), vi (pY D p k), vi (pX D p k), vi 0, vi 0, vi s]) (c_X9_yOf hm hD (by omega) (by omega) (by omega) (by omega)) lk_RX9_75 (by decide) rfl rfl hm.ob ⟨_, rfl, rfl⟩ (Nat.le_of_ble_eq_true rfl) eX9_doubled_47 (fun z16 e17 => ?_)
    subst e17
    refine q_Si (av := [vi 0, vi 0, vi (pX D p k), vi (pY D p k), vi (pX D p (gm_nx (pN D p) k)), vi (pY D p (gm_nx (pN D p) k))]) (st := [vi s]) c_X9_turn lk_RX9_46 (by decide) rfl rfl (Nat.le_of_ble_eq_true rfl) eX9_doubled_50 (fun z18 e19 => ?_)
    subst e19
    have tr9 := gm_turn_r (ax := 0) (ay := 0) (bx := (pX D p k)) (by' := (pY D p k)) (px := (pX D p (gm_nx (pN D p) k))) (py := (pY D p (gm_nx (pN D p) k))) (by first | assumption | exact ⟨by omega, by omega⟩) (by first | assumption | exact ⟨by omega, by omega⟩) (by first | assumption | exact ⟨by omega, by omega⟩) (by first | assumption | exact ⟨by omega, by omega⟩) (by first | assumption | exact ⟨by omega, by omega⟩) (by first | assumption | exact ⟨by omega, by omega⟩)
    refine q_blk (lv2 := [(0, vr n), (1, vi p), (2, vi (s + (gm_turn 0 0 (pX D p k) (pY D p k) (pX D p (gm_nx (pN D p) k)) (pY D p (gm_nx (pN D p) k))))), (3, vi (k + 1))]) (st2 := []) kX9_doubled_53 rfl ?_
    refine q_goto (tgt := 4) eX9_doubled_58 (by decide) ?_
    exact ih1 (s + (gm_turn 0 0 (pX D p k) (pY D p k) (pX D p (gm_nx (pN D p) k)) (pY D p (gm_nx (pN D p) k)))) (k + 1) (⟨⟨by omega, by omega⟩, by rw [gm_sm_s _ k0, ← hs, gm_turn_0]; rfl, by have := tr9; omega⟩) (by omega)

set_option maxHeartbeats 1000000 in
theorem c_X9_areaOf {w : am_w} {h : AH} {n : Nat} {th bl tl ps er ea eo ud g0 g1 g2 g3 ns ne se : Int} {D : Int → Int} (hm : MM h n th bl tl ps er ea eo ud g0 g1 g2 g3 ns ne se D) (hD : VD D) {p : Int} (p0 : 0 ≤ p) (p1 : p < D 3)  : AE w m_X9_areaOf 5 [vr n, vi p] h (am_intp h (fun z => z = gm_arD D p ∧ 0 ≤ z ∧ z ≤ 21600)) := by
  refine AE.of wf_X9_areaOf (Nat.le_of_ble_eq_true rfl) (am_ok_ip) ?_
  obtain ⟨m0, m1⟩ := id hm
  have d0 := hD.1
  have d1 := hD.2.1
  have d2 := hD.2.2.1
  have d3 := hD.2.2.2.1
  refine q_blk (lv2 := [(0, vr n), (1, vi p)]) (st2 := [vi p, vr n]) kX9_areaOf_0 rfl ?_
  refine q_Vi (av := [vi p]) (st := []) (c_X9_doubled hm hD (by omega) (by omega)) lk_RX9_258 (by decide) rfl rfl hm.ob ⟨_, rfl, rfl⟩ (Nat.le_of_ble_eq_true rfl) eX9_areaOf_2 (fun z1 e2 => ?_)
  have db9 := e2.2
  have da9 := e2.1
  refine q_blk (lv2 := [(0, vr n), (1, vi p), (2, vi z1)]) (st2 := [vi z1]) kX9_areaOf_5 rfl ?_
  refine AQ.if_ge (tgt := 15) eX9_areaOf_7 (by decide) (by first | assumption | exact ⟨by omega, by omega⟩) (fun br3 => ?_) (fun br3 => ?_)
  · skip
    refine q_blk (lv2 := [(0, vr n), (1, vi p), (2, vi z1)]) (st2 := [vi z1]) kX9_areaOf_15 rfl ?_
    exact q_ri rfl eX9_areaOf_16 ⟨z1, rfl, ⟨by unfold gm_arD gm_abs; rw [← da9]; split <;> omega, by omega, by omega⟩, rfl⟩
  · skip
    refine q_blk (lv2 := [(0, vr n), (1, vi p), (2, vi z1)]) (st2 := [vi (-z1)]) kX9_areaOf_10 rfl ?_
    refine q_goto (tgt := 16) eX9_areaOf_12 (by decide) ?_
    exact q_ri rfl eX9_areaOf_16 ⟨(-z1), rfl, ⟨by unfold gm_arD gm_abs; rw [← da9]; split <;> omega, by omega, by omega⟩, rfl⟩

set_option maxHeartbeats 1000000 in
theorem c_X9_sideOf {w : am_w} {h : AH} {n : Nat} {th bl tl ps er ea eo ud g0 g1 g2 g3 ns ne se : Int} {D : Int → Int} (hm : MM h n th bl tl ps er ea eo ud g0 g1 g2 g3 ns ne se D) (hD : VD D) {p : Int} (p0 : 0 ≤ p) (p1 : p < D 3) {x y : Int} (h_x : am_c x) (h_y : am_c y)  : AE w m_X9_sideOf 4 [vr n, vi p, vi x, vi y] h (am_intp h (fun z => gm_si z (pN D p) (pX D p) (pY D p) x y)) := by
  refine AE.of wf_X9_sideOf (Nat.le_of_ble_eq_true rfl) (am_ok_ip) ?_
  obtain ⟨m0, m1⟩ := id hm
  have d0 := hD.1
  have d1 := hD.2.1
  have d2 := hD.2.2.1
  have d3 := hD.2.2.2.1
  have hn := hD.n p0 p1
  have hcl := hD.cl p0 p1
  have rx := h_x
  have ry := h_y
  unfold am_c at rx ry
  refine q_blk (lv2 := [(0, vr n), (1, vi p), (2, vi x), (3, vi y), (4, vi 0), (5, vi 0)]) (st2 := []) kX9_sideOf_0 rfl ?_
  refine am_lp2 (I := fun (v : Int) (k : Int) => (0 ≤ k ∧ k ≤ pN D p) ∧ (v = 0 ∨ v = 1) ∧ (∀ q, 0 ≤ q → q < k → ¬ gm_sd (pN D p) (pX D p) (pY D p) x y q) ∧ (v = 1 ↔ gm_od (pN D p) (pX D p) (pY D p) x y k.toNat)) (μ := fun (v : Int) (k : Int) => (pN D p - k).toNat) (G := fun (v : Int) (k : Int) => AQ w m_X9_sideOf 4 6 [(0, vr n), (1, vi p), (2, vi x), (3, vi y), (4, vi v), (5, vi k)] [] h (am_intp h (fun z => gm_si z (pN D p) (pX D p) (pY D p) x y))) ?_ 0 0 (⟨⟨by omega, by omega⟩, Or.inl rfl, fun q q0 q1 => by omega, ⟨fun q => by omega, fun q => q.elim⟩⟩)
  intro v k hI2 ih1
  obtain ⟨⟨k0, k1⟩, hv, hno, hod⟩ := hI2
  refine q_blk (lv2 := [(0, vr n), (1, vi p), (2, vi x), (3, vi y), (4, vi v), (5, vi k)]) (st2 := [vi p, vr n, vi k]) kX9_sideOf_6 rfl ?_
  refine q_Vi (av := [vi p]) (st := [vi k]) (c_X9_countOf hm hD (by omega) (by omega)) lk_RX9_39 (by decide) rfl rfl hm.ob ⟨_, rfl, rfl⟩ (Nat.le_of_ble_eq_true rfl) eX9_sideOf_10 (fun z3 e4 => ?_)
  subst e4
  refine AQ.ic_ge (tgt := 161) eX9_sideOf_13 (by decide) (by first | assumption | exact ⟨by omega, by omega⟩) (by first | assumption | exact ⟨by omega, by omega⟩) (fun br5 => ?_) (fun br5 => ?_)
  · skip
    refine q_blk (lv2 := [(0, vr n), (1, vi p), (2, vi x), (3, vi y), (4, vi v), (5, vi k)]) (st2 := [vi v]) kX9_sideOf_161 rfl ?_
    refine AQ.if_eq (tgt := 170) eX9_sideOf_163 (by decide) (by first | assumption | exact ⟨by omega, by omega⟩) (fun br6 => ?_) (fun br6 => ?_)
    · skip
      refine q_blk (lv2 := [(0, vr n), (1, vi p), (2, vi x), (3, vi y), (4, vi v), (5, vi k)]) (st2 := [vi 0]) kX9_sideOf_170 rfl ?_
      exact q_ri rfl eX9_sideOf_171 ⟨0, rfl, Or.inr (Or.inr ⟨rfl, fun ⟨q, q0, q1, q2⟩ => hno q q0 (by omega) q2, fun q => by rw [show (pN D p).toNat = k.toNat by omega] at q; have := hod.mpr q; omega⟩), rfl⟩
    · skip
      refine q_blk (lv2 := [(0, vr n), (1, vi p), (2, vi x), (3, vi y), (4, vi v), (5, vi k)]) (st2 := [vi 2]) kX9_sideOf_166 rfl ?_
      refine q_goto (tgt := 171) eX9_sideOf_167 (by decide) ?_
      exact q_ri rfl eX9_sideOf_171 ⟨2, rfl, Or.inr (Or.inl ⟨rfl, fun ⟨q, q0, q1, q2⟩ => hno q q0 (by omega) q2, by rw [show (pN D p).toNat = k.toNat by omega]; exact hod.mp (by omega)⟩), rfl⟩
  · skip
    refine q_blk (lv2 := [(0, vr n), (1, vi p), (2, vi x), (3, vi y), (4, vi v), (5, vi k)]) (st2 := [vi k, vi p, vr n]) kX9_sideOf_16 rfl ?_
    have hc9 := hD.c p0 (by omega) k0 (by omega)
    obtain ⟨hc8, hc7⟩ := id hc9
    have nx8 := gm_nx_r (n := pN D p) (k := k) (by omega) (by omega)
    obtain ⟨hc6, hc5⟩ := id (hD.c p0 (by omega) nx8.1 nx8.2)
    have hb8 := hc8
    have hb7 := hc7
    have hb6 := hc6
    have hb5 := hc5
    unfold am_c at hb8 hb7 hb6 hb5
    refine q_Vi (av := [vi p, vi k]) (st := []) (c_X9_xOf hm hD (by omega) (by omega) (by omega) (by omega)) lk_RX9_72 (by decide) rfl rfl hm.ob ⟨_, rfl, rfl⟩ (Nat.le_of_ble_eq_true rfl) eX9_sideOf_20 (fun z7 e8 => ?_)
    subst e8
    refine q_blk (lv2 := [(0, vr n), (1, vi p), (2, vi x), (3, vi y), (4, vi v), (5, vi k), (6, vi (pX D p k))]) (st2 := [vi k, vi p, vr n]) kX9_sideOf_23 rfl ?_
    refine q_Vi (av := [vi p, vi k]) (st := []) (c_X9_yOf hm hD (by omega) (by omega) (by omega) (by omega)) lk_RX9_75 (by decide) rfl rfl hm.ob ⟨_, rfl, rfl⟩ (Nat.le_of_ble_eq_true rfl) eX9_sideOf_29 (fun z9 e10 => ?_)
    subst e10
    refine q_blk (lv2 := [(0, vr n), (1, vi p), (2, vi x), (3, vi y), (4, vi v), (5, vi k), (6, vi (pX D p k)), (7, vi (pY D p k))]) (st2 := [vi k, vi p, vr n, vi p, vr n]) kX9_sideOf_32 rfl ?_
    refine q_Vi (av := [vi p, vi k]) (st := [vi p, vr n]) (c_X9_behind hm hD (by omega) (by omega) (by omega) (by omega)) lk_RX9_84 (by decide) rfl rfl hm.ob ⟨_, rfl, rfl⟩ (Nat.le_of_ble_eq_true rfl) eX9_sideOf_40 (fun z11 e12 => ?_)
    subst e12
    have nx9 := gm_nx_r (n := pN D p) (k := k) (by omega) (by omega)
    refine q_Vi (av := [vi p, vi (gm_nx (pN D p) k)]) (st := []) (c_X9_xOf hm hD (by omega) (by omega) (by omega) (by omega)) lk_RX9_72 (by decide) rfl rfl hm.ob ⟨_, rfl, rfl⟩ (Nat.le_of_ble_eq_true rfl) eX9_sideOf_43 (fun z13 e14 => ?_)
    subst e14
    refine q_blk (lv2 := [(0, vr n), (1, vi p), (2, vi x), (3, vi y), (4, vi v), (5, vi k), (6, vi (pX D p k)), (7, vi (pY D p k)), (8, vi (pX D p (gm_nx (pN D p) k)))]) (st2 := [vi k, vi p, vr n, vi p, vr n]) kX9_sideOf_46 rfl ?_
    refine q_Vi (av := [vi p, vi k]) (st := [vi p, vr n]) (c_X9_behind hm hD (by omega) (by omega) (by omega) (by omega)) lk_RX9_84 (by decide) rfl rfl hm.ob ⟨_, rfl, rfl⟩ (Nat.le_of_ble_eq_true rfl) eX9_sideOf_54 (fun z15 e16 => ?_)
    subst e16
    have nx9 := gm_nx_r (n := pN D p) (k := k) (by omega) (by omega)
    refine q_Vi (av := [vi p, vi (gm_nx (pN D p) k)]) (st := []) (c_X9_yOf hm hD (by omega) (by omega) (by omega) (by omega)) lk_RX9_75 (by decide) rfl rfl hm.ob ⟨_, rfl, rfl⟩ (Nat.le_of_ble_eq_true rfl) eX9_sideOf_57 (fun z17 e18 => ?_)
    subst e18
    refine q_blk (lv2 := [(0, vr n), (1, vi p), (2, vi x), (3, vi y), (4, vi v), (5, vi k), (6, vi (pX D p k)), (7, vi (pY D p k)), (8, vi (pX D p (gm_nx (pN D p) k))), (9, vi (pY D p (gm_nx (pN D p) k)))]) (st2 := [vi y, vi x, vi (pY D p (gm_nx (pN D p) k)), vi (pX D p (gm_nx (pN D p) k)), vi (pY D p k), vi (pX D p k)]) kX9_sideOf_60 rfl ?_
    refine q_Si (av := [vi (pX D p k), vi (pY D p k), vi (pX D p (gm_nx (pN D p) k)), vi (pY D p (gm_nx (pN D p) k)), vi x, vi y]) (st := []) (c_X9_isOn (by first | assumption | exact ⟨by omega, by omega⟩) (by first | assumption | exact ⟨by omega, by omega⟩) (by first | assumption | exact ⟨by omega, by omega⟩) (by first | assumption | exact ⟨by omega, by omega⟩) (by first | assumption | exact ⟨by omega, by omega⟩) (by first | assumption | exact ⟨by omega, by omega⟩)) lk_RX9_61 (by decide) rfl rfl (Nat.le_of_ble_eq_true rfl) eX9_sideOf_72 (fun z19 e20 => ?_)
    rcases e20 with ⟨rfl, e20⟩ | ⟨rfl, e20⟩
    · skip
      refine AQ.of (AS.if_eq_f eX9_sideOf_75 ⟨by decide, by decide⟩ (by decide) (by decide)) ?_
      refine q_blk (lv2 := [(0, vr n), (1, vi p), (2, vi x), (3, vi y), (4, vi v), (5, vi k), (6, vi (pX D p k)), (7, vi (pY D p k)), (8, vi (pX D p (gm_nx (pN D p) k))), (9, vi (pY D p (gm_nx (pN D p) k)))]) (st2 := [vi 1]) kX9_sideOf_78 rfl ?_
      exact q_ri rfl eX9_sideOf_79 ⟨1, rfl, Or.inl ⟨rfl, k, by omega, by omega, e20⟩, rfl⟩
    · skip
      refine AQ.of (AS.if_eq_t (tgt := 80) eX9_sideOf_75 (by decide) ⟨by decide, by decide⟩ (by decide)) ?_
      refine q_blk (lv2 := [(0, vr n), (1, vi p), (2, vi x), (3, vi y), (4, vi v), (5, vi k), (6, vi (pX D p k)), (7, vi (pY D p k)), (8, vi (pX D p (gm_nx (pN D p) k))), (9, vi (pY D p (gm_nx (pN D p) k)))]) (st2 := [vi y, vi (pY D p k)]) kX9_sideOf_80 rfl ?_
      refine AQ.ic_le (tgt := 90) eX9_sideOf_83 (by decide) (by first | assumption | exact ⟨by omega, by omega⟩) (by first | assumption | exact ⟨by omega, by omega⟩) (fun br21 => ?_) (fun br21 => ?_)
      · skip
        refine q_blk (lv2 := [(0, vr n), (1, vi p), (2, vi x), (3, vi y), (4, vi v), (5, vi k), (6, vi (pX D p k)), (7, vi (pY D p k)), (8, vi (pX D p (gm_nx (pN D p) k))), (9, vi (pY D p (gm_nx (pN D p) k)))]) (st2 := [vi 0]) kX9_sideOf_90 rfl ?_
        refine q_blk (lv2 := [(0, vr n), (1, vi p), (2, vi x), (3, vi y), (4, vi v), (5, vi k), (6, vi (pX D p k)), (7, vi (pY D p k)), (8, vi (pX D p (gm_nx (pN D p) k))), (9, vi (pY D p (gm_nx (pN D p) k)))]) (st2 := [vi y, vi (pY D p (gm_nx (pN D p) k)), vi 0]) kX9_sideOf_91 rfl ?_
        refine AQ.ic_le (tgt := 101) eX9_sideOf_94 (by decide) (by first | assumption | exact ⟨by omega, by omega⟩) (by first | assumption | exact ⟨by omega, by omega⟩) (fun br22 => ?_) (fun br22 => ?_)
        · skip
          refine q_blk (lv2 := [(0, vr n), (1, vi p), (2, vi x), (3, vi y), (4, vi v), (5, vi k), (6, vi (pX D p k)), (7, vi (pY D p k)), (8, vi (pX D p (gm_nx (pN D p) k))), (9, vi (pY D p (gm_nx (pN D p) k)))]) (st2 := [vi 0, vi 0]) kX9_sideOf_101 rfl ?_
          refine AQ.of (AS.ic_ne_f eX9_sideOf_102 ⟨by decide, by decide⟩ ⟨by decide, by decide⟩ (by decide) (by decide)) ?_
          refine q_goto (tgt := 155) eX9_sideOf_105 (by decide) ?_
          refine q_blk (lv2 := [(0, vr n), (1, vi p), (2, vi x), (3, vi y), (4, vi v), (5, vi (k + 1)), (6, vi (pX D p k)), (7, vi (pY D p k)), (8, vi (pX D p (gm_nx (pN D p) k))), (9, vi (pY D p (gm_nx (pN D p) k)))]) (st2 := []) kX9_sideOf_155 rfl ?_
          refine q_goto (tgt := 6) eX9_sideOf_158 (by decide) ?_
          refine q_sub (lv2 := [(0, vr n), (1, vi p), (2, vi x), (3, vi y), (4, vi v), (5, vi (k + 1))]) [0, 1, 2, 3, 4, 5] rfl ?_
          exact ih1 v (k + 1) (⟨⟨by omega, by omega⟩, by omega, fun q q0 q1 => by
        by_cases e : q = k
        · subst e; exact e20
        · exact hno q q0 (by omega), by
        rw [gm_od_s k0, ← hod]
        unfold gm_cx
        first
        | (rw [if_pos (by omega)]; omega)
        | (rw [if_neg (by omega)]; omega)⟩) (by omega)
        · skip
          refine q_blk (lv2 := [(0, vr n), (1, vi p), (2, vi x), (3, vi y), (4, vi v), (5, vi k), (6, vi (pX D p k)), (7, vi (pY D p k)), (8, vi (pX D p (gm_nx (pN D p) k))), (9, vi (pY D p (gm_nx (pN D p) k)))]) (st2 := [vi 1, vi 0]) kX9_sideOf_97 rfl ?_
          refine q_goto (tgt := 102) eX9_sideOf_98 (by decide) ?_
          refine AQ.of (AS.ic_ne_t (tgt := 108) eX9_sideOf_102 (by decide) ⟨by decide, by decide⟩ ⟨by decide, by decide⟩ (by decide)) ?_
          refine q_blk (lv2 := [(0, vr n), (1, vi p), (2, vi x), (3, vi y), (4, vi v), (5, vi k), (6, vi (pX D p k)), (7, vi (pY D p k)), (8, vi (pX D p (gm_nx (pN D p) k))), (9, vi (pY D p (gm_nx (pN D p) k)))]) (st2 := [vi y, vi x, vi (pY D p (gm_nx (pN D p) k)), vi (pX D p (gm_nx (pN D p) k)), vi (pY D p k), vi (pX D p k)]) kX9_sideOf_108 rfl ?_
          refine q_Si (av := [vi (pX D p k), vi (pY D p k), vi (pX D p (gm_nx (pN D p) k)), vi (pY D p (gm_nx (pN D p) k)), vi x, vi y]) (st := []) c_X9_turn lk_RX9_46 (by decide) rfl rfl (Nat.le_of_ble_eq_true rfl) eX9_sideOf_118 (fun z23 e24 => ?_)
          subst e24
          have tr9 := gm_turn_r (ax := (pX D p k)) (ay := (pY D p k)) (bx := (pX D p (gm_nx (pN D p) k))) (by' := (pY D p (gm_nx (pN D p) k))) (px := x) (py := y) (by first | assumption | exact ⟨by omega, by omega⟩) (by first | assumption | exact ⟨by omega, by omega⟩) (by first | assumption | exact ⟨by omega, by omega⟩) (by first | assumption | exact ⟨by omega, by omega⟩) (by first | assumption | exact ⟨by omega, by omega⟩) (by first | assumption | exact ⟨by omega, by omega⟩)
          refine q_blk (lv2 := [(0, vr n), (1, vi p), (2, vi x), (3, vi y), (4, vi v), (5, vi k), (6, vi (pX D p k)), (7, vi (pY D p k)), (8, vi (pX D p (gm_nx (pN D p) k))), (9, vi (pY D p (gm_nx (pN D p) k))), (10, vi (gm_turn (pX D p k) (pY D p k) (pX D p (gm_nx (pN D p) k)) (pY D p (gm_nx (pN D p) k)) x y))]) (st2 := [vi (pY D p k), vi (pY D p (gm_nx (pN D p) k))]) kX9_sideOf_121 rfl ?_
          refine AQ.ic_le (tgt := 138) eX9_sideOf_127 (by decide) (by first | assumption | exact ⟨by omega, by omega⟩) (by first | assumption | exact ⟨by omega, by omega⟩) (fun br25 => ?_) (fun br25 => ?_)
          · skip
            refine q_blk (lv2 := [(0, vr n), (1, vi p), (2, vi x), (3, vi y), (4, vi v), (5, vi k), (6, vi (pX D p k)), (7, vi (pY D p k)), (8, vi (pX D p (gm_nx (pN D p) k))), (9, vi (pY D p (gm_nx (pN D p) k))), (10, vi (gm_turn (pX D p k) (pY D p k) (pX D p (gm_nx (pN D p) k)) (pY D p (gm_nx (pN D p) k)) x y))]) (st2 := [vi (gm_turn (pX D p k) (pY D p k) (pX D p (gm_nx (pN D p) k)) (pY D p (gm_nx (pN D p) k)) x y)]) kX9_sideOf_138 rfl ?_
            refine AQ.if_ge (tgt := 155) eX9_sideOf_140 (by decide) (by first | assumption | exact ⟨by omega, by omega⟩) (fun br26 => ?_) (fun br26 => ?_)
            · skip
              refine q_blk (lv2 := [(0, vr n), (1, vi p), (2, vi x), (3, vi y), (4, vi v), (5, vi (k + 1)), (6, vi (pX D p k)), (7, vi (pY D p k)), (8, vi (pX D p (gm_nx (pN D p) k))), (9, vi (pY D p (gm_nx (pN D p) k))), (10, vi (gm_turn (pX D p k) (pY D p k) (pX D p (gm_nx (pN D p) k)) (pY D p (gm_nx (pN D p) k)) x y))]) (st2 := []) kX9_sideOf_155 rfl ?_
              refine q_goto (tgt := 6) eX9_sideOf_158 (by decide) ?_
              refine q_sub (lv2 := [(0, vr n), (1, vi p), (2, vi x), (3, vi y), (4, vi v), (5, vi (k + 1))]) [0, 1, 2, 3, 4, 5] rfl ?_
              exact ih1 v (k + 1) (⟨⟨by omega, by omega⟩, by omega, fun q q0 q1 => by
        by_cases e : q = k
        · subst e; exact e20
        · exact hno q q0 (by omega), by
        rw [gm_od_s k0, ← hod]
        unfold gm_cx
        first
        | (rw [if_pos (by omega)]; omega)
        | (rw [if_neg (by omega)]; omega)⟩) (by omega)
            · skip
              refine q_blk (lv2 := [(0, vr n), (1, vi p), (2, vi x), (3, vi y), (4, vi v), (5, vi k), (6, vi (pX D p k)), (7, vi (pY D p k)), (8, vi (pX D p (gm_nx (pN D p) k))), (9, vi (pY D p (gm_nx (pN D p) k))), (10, vi (gm_turn (pX D p k) (pY D p k) (pX D p (gm_nx (pN D p) k)) (pY D p (gm_nx (pN D p) k)) x y))]) (st2 := [vi v]) kX9_sideOf_143 rfl ?_
              refine AQ.if_ne (tgt := 152) eX9_sideOf_145 (by decide) (by first | assumption | exact ⟨by omega, by omega⟩) (fun br27 => ?_) (fun br27 => ?_)
              · skip
                refine q_blk (lv2 := [(0, vr n), (1, vi p), (2, vi x), (3, vi y), (4, vi v), (5, vi k), (6, vi (pX D p k)), (7, vi (pY D p k)), (8, vi (pX D p (gm_nx (pN D p) k))), (9, vi (pY D p (gm_nx (pN D p) k))), (10, vi (gm_turn (pX D p k) (pY D p k) (pX D p (gm_nx (pN D p) k)) (pY D p (gm_nx (pN D p) k)) x y))]) (st2 := [vi 0]) kX9_sideOf_152 rfl ?_
                refine q_blk (lv2 := [(0, vr n), (1, vi p), (2, vi x), (3, vi y), (4, vi 0), (5, vi k), (6, vi (pX D p k)), (7, vi (pY D p k)), (8, vi (pX D p (gm_nx (pN D p) k))), (9, vi (pY D p (gm_nx (pN D p) k))), (10, vi (gm_turn (pX D p k) (pY D p k) (pX D p (gm_nx (pN D p) k)) (pY D p (gm_nx (pN D p) k)) x y))]) (st2 := []) kX9_sideOf_153 rfl ?_
                refine q_blk (lv2 := [(0, vr n), (1, vi p), (2, vi x), (3, vi y), (4, vi 0), (5, vi (k + 1)), (6, vi (pX D p k)), (7, vi (pY D p k)), (8, vi (pX D p (gm_nx (pN D p) k))), (9, vi (pY D p (gm_nx (pN D p) k))), (10, vi (gm_turn (pX D p k) (pY D p k) (pX D p (gm_nx (pN D p) k)) (pY D p (gm_nx (pN D p) k)) x y))]) (st2 := []) kX9_sideOf_155 rfl ?_
                refine q_goto (tgt := 6) eX9_sideOf_158 (by decide) ?_
                refine q_sub (lv2 := [(0, vr n), (1, vi p), (2, vi x), (3, vi y), (4, vi 0), (5, vi (k + 1))]) [0, 1, 2, 3, 4, 5] rfl ?_
                exact ih1 0 (k + 1) (⟨⟨by omega, by omega⟩, by omega, fun q q0 q1 => by
        by_cases e : q = k
        · subst e; exact e20
        · exact hno q q0 (by omega), by
        rw [gm_od_s k0, ← hod]
        unfold gm_cx
        first
        | (rw [if_pos (by omega)]; omega)
        | (rw [if_neg (by omega)]; omega)⟩) (by omega)
              · skip
                refine q_blk (lv2 := [(0, vr n), (1, vi p), (2, vi x), (3, vi y), (4, vi v), (5, vi k), (6, vi (pX D p k)), (7, vi (pY D p k)), (8, vi (pX D p (gm_nx (pN D p) k))), (9, vi (pY D p (gm_nx (pN D p) k))), (10, vi (gm_turn (pX D p k) (pY D p k) (pX D p (gm_nx (pN D p) k)) (pY D p (gm_nx (pN D p) k)) x y))]) (st2 := [vi 1]) kX9_sideOf_148 rfl ?_
                refine q_goto (tgt := 153) eX9_sideOf_149 (by decide) ?_
                refine q_blk (lv2 := [(0, vr n), (1, vi p), (2, vi x), (3, vi y), (4, vi 1), (5, vi k), (6, vi (pX D p k)), (7, vi (pY D p k)), (8, vi (pX D p (gm_nx (pN D p) k))), (9, vi (pY D p (gm_nx (pN D p) k))), (10, vi (gm_turn (pX D p k) (pY D p k) (pX D p (gm_nx (pN D p) k)) (pY D p (gm_nx (pN D p) k)) x y))]) (st2 := []) kX9_sideOf_153 rfl ?_
                refine q_blk (lv2 := [(0, vr n), (1, vi p), (2, vi x), (3, vi y), (4, vi 1), (5, vi (k + 1)), (6, vi (pX D p k)), (7, vi (pY D p k)), (8, vi (pX D p (gm_nx (pN D p) k))), (9, vi (pY D p (gm_nx (pN D p) k))), (10, vi (gm_turn (pX D p k) (pY D p k) (pX D p (gm_nx (pN D p) k)) (pY D p (gm_nx (pN D p) k)) x y))]) (st2 := []) kX9_sideOf_155 rfl ?_
                refine q_goto (tgt := 6) eX9_sideOf_158 (by decide) ?_
                refine q_sub (lv2 := [(0, vr n), (1, vi p), (2, vi x), (3, vi y), (4, vi 1), (5, vi (k + 1))]) [0, 1, 2, 3, 4, 5] rfl ?_
                exact ih1 1 (k + 1) (⟨⟨by omega, by omega⟩, by omega, fun q q0 q1 => by
        by_cases e : q = k
        · subst e; exact e20
        · exact hno q q0 (by omega), by
        rw [gm_od_s k0, ← hod]
        unfold gm_cx
        first
        | (rw [if_pos (by omega)]; omega)
        | (rw [if_neg (by omega)]; omega)⟩) (by omega)
          · skip
            refine q_blk (lv2 := [(0, vr n), (1, vi p), (2, vi x), (3, vi y), (4, vi v), (5, vi k), (6, vi (pX D p k)), (7, vi (pY D p k)), (8, vi (pX D p (gm_nx (pN D p) k))), (9, vi (pY D p (gm_nx (pN D p) k))), (10, vi (gm_turn (pX D p k) (pY D p k) (pX D p (gm_nx (pN D p) k)) (pY D p (gm_nx (pN D p) k)) x y))]) (st2 := [vi (gm_turn (pX D p k) (pY D p k) (pX D p (gm_nx (pN D p) k)) (pY D p (gm_nx (pN D p) k)) x y)]) kX9_sideOf_130 rfl ?_
            refine AQ.if_le (tgt := 155) eX9_sideOf_132 (by decide) (by first | assumption | exact ⟨by omega, by omega⟩) (fun br28 => ?_) (fun br28 => ?_)
            · skip
              refine q_blk (lv2 := [(0, vr n), (1, vi p), (2, vi x), (3, vi y), (4, vi v), (5, vi (k + 1)), (6, vi (pX D p k)), (7, vi (pY D p k)), (8, vi (pX D p (gm_nx (pN D p) k))), (9, vi (pY D p (gm_nx (pN D p) k))), (10, vi (gm_turn (pX D p k) (pY D p k) (pX D p (gm_nx (pN D p) k)) (pY D p (gm_nx (pN D p) k)) x y))]) (st2 := []) kX9_sideOf_155 rfl ?_
              refine q_goto (tgt := 6) eX9_sideOf_158 (by decide) ?_
              refine q_sub (lv2 := [(0, vr n), (1, vi p), (2, vi x), (3, vi y), (4, vi v), (5, vi (k + 1))]) [0, 1, 2, 3, 4, 5] rfl ?_
              exact ih1 v (k + 1) (⟨⟨by omega, by omega⟩, by omega, fun q q0 q1 => by
        by_cases e : q = k
        · subst e; exact e20
        · exact hno q q0 (by omega), by
        rw [gm_od_s k0, ← hod]
        unfold gm_cx
        first
        | (rw [if_pos (by omega)]; omega)
        | (rw [if_neg (by omega)]; omega)⟩) (by omega)
            · skip
              refine q_goto (tgt := 143) eX9_sideOf_135 (by decide) ?_
              refine q_blk (lv2 := [(0, vr n), (1, vi p), (2, vi x), (3, vi y), (4, vi v), (5, vi k), (6, vi (pX D p k)), (7, vi (pY D p k)), (8, vi (pX D p (gm_nx (pN D p) k))), (9, vi (pY D p (gm_nx (pN D p) k))), (10, vi (gm_turn (pX D p k) (pY D p k) (pX D p (gm_nx (pN D p) k)) (pY D p (gm_nx (pN D p) k)) x y))]) (st2 := [vi v]) kX9_sideOf_143 rfl ?_
              refine AQ.if_ne (tgt := 152) eX9_sideOf_145 (by decide) (by first | assumption | exact ⟨by omega, by omega⟩) (fun br29 => ?_) (fun br29 => ?_)
              · skip
                refine q_blk (lv2 := [(0, vr n), (1, vi p), (2, vi x), (3, vi y), (4, vi v), (5, vi k), (6, vi (pX D p k)), (7, vi (pY D p k)), (8, vi (pX D p (gm_nx (pN D p) k))), (9, vi (pY D p (gm_nx (pN D p) k))), (10, vi (gm_turn (pX D p k) (pY D p k) (pX D p (gm_nx (pN D p) k)) (pY D p (gm_nx (pN D p) k)) x y))]) (st2 := [vi 0]) kX9_sideOf_152 rfl ?_
                refine q_blk (lv2 := [(0, vr n), (1, vi p), (2, vi x), (3, vi y), (4, vi 0), (5, vi k), (6, vi (pX D p k)), (7, vi (pY D p k)), (8, vi (pX D p (gm_nx (pN D p) k))), (9, vi (pY D p (gm_nx (pN D p) k))), (10, vi (gm_turn (pX D p k) (pY D p k) (pX D p (gm_nx (pN D p) k)) (pY D p (gm_nx (pN D p) k)) x y))]) (st2 := []) kX9_sideOf_153 rfl ?_
                refine q_blk (lv2 := [(0, vr n), (1, vi p), (2, vi x), (3, vi y), (4, vi 0), (5, vi (k + 1)), (6, vi (pX D p k)), (7, vi (pY D p k)), (8, vi (pX D p (gm_nx (pN D p) k))), (9, vi (pY D p (gm_nx (pN D p) k))), (10, vi (gm_turn (pX D p k) (pY D p k) (pX D p (gm_nx (pN D p) k)) (pY D p (gm_nx (pN D p) k)) x y))]) (st2 := []) kX9_sideOf_155 rfl ?_
                refine q_goto (tgt := 6) eX9_sideOf_158 (by decide) ?_
                refine q_sub (lv2 := [(0, vr n), (1, vi p), (2, vi x), (3, vi y), (4, vi 0), (5, vi (k + 1))]) [0, 1, 2, 3, 4, 5] rfl ?_
                exact ih1 0 (k + 1) (⟨⟨by omega, by omega⟩, by omega, fun q q0 q1 => by
        by_cases e : q = k
        · subst e; exact e20
        · exact hno q q0 (by omega), by
        rw [gm_od_s k0, ← hod]
        unfold gm_cx
        first
        | (rw [if_pos (by omega)]; omega)
        | (rw [if_neg (by omega)]; omega)⟩) (by omega)
              · skip
                refine q_blk (lv2 := [(0, vr n), (1, vi p), (2, vi x), (3, vi y), (4, vi v), (5, vi k), (6, vi (pX D p k)), (7, vi (pY D p k)), (8, vi (pX D p (gm_nx (pN D p) k))), (9, vi (pY D p (gm_nx (pN D p) k))), (10, vi (gm_turn (pX D p k) (pY D p k) (pX D p (gm_nx (pN D p) k)) (pY D p (gm_nx (pN D p) k)) x y))]) (st2 := [vi 1]) kX9_sideOf_148 rfl ?_
                refine q_goto (tgt := 153) eX9_sideOf_149 (by decide) ?_
                refine q_blk (lv2 := [(0, vr n), (1, vi p), (2, vi x), (3, vi y), (4, vi 1), (5, vi k), (6, vi (pX D p k)), (7, vi (pY D p k)), (8, vi (pX D p (gm_nx (pN D p) k))), (9, vi (pY D p (gm_nx (pN D p) k))), (10, vi (gm_turn (pX D p k) (pY D p k) (pX D p (gm_nx (pN D p) k)) (pY D p (gm_nx (pN D p) k)) x y))]) (st2 := []) kX9_sideOf_153 rfl ?_
                refine q_blk (lv2 := [(0, vr n), (1, vi p), (2, vi x), (3, vi y), (4, vi 1), (5, vi (k + 1)), (6, vi (pX D p k)), (7, vi (pY D p k)), (8, vi (pX D p (gm_nx (pN D p) k))), (9, vi (pY D p (gm_nx (pN D p) k))), (10, vi (gm_turn (pX D p k) (pY D p k) (pX D p (gm_nx (pN D p) k)) (pY D p (gm_nx (pN D p) k)) x y))]) (st2 := []) kX9_sideOf_155 rfl ?_
                refine q_goto (tgt := 6) eX9_sideOf_158 (by decide) ?_
                refine q_sub (lv2 := [(0, vr n), (1, vi p), (2, vi x), (3, vi y), (4, vi 1), (5, vi (k + 1))]) [0, 1, 2, 3, 4, 5] rfl ?_
                exact ih1 1 (k + 1) (⟨⟨by omega, by omega⟩, by omega, fun q q0 q1 => by
        by_cases e : q = k
        · subst e; exact e20
        · exact hno q q0 (by omega), by
        rw [gm_od_s k0, ← hod]
        unfold gm_cx
        first
        | (rw [if_pos (by omega)]; omega)
        | (rw [if_neg (by omega)]; omega)⟩) (by omega)
      · skip
        refine q_blk (lv2 := [(0, vr n), (1, vi p), (2, vi x), (3, vi y), (4, vi v), (5, vi k), (6, vi (pX D p k)), (7, vi (pY D p k)), (8, vi (pX D p (gm_nx (pN D p) k))), (9, vi (pY D p (gm_nx (pN D p) k)))]) (st2 := [vi 1]) kX9_sideOf_86 rfl ?_
        refine q_goto (tgt := 91) eX9_sideOf_87 (by decide) ?_
        refine q_blk (lv2 := [(0, vr n), (1, vi p), (2, vi x), (3, vi y), (4, vi v), (5, vi k), (6, vi (pX D p k)), (7, vi (pY D p k)), (8, vi (pX D p (gm_nx (pN D p) k))), (9, vi (pY D p (gm_nx (pN D p) k)))]) (st2 := [vi y, vi (pY D p (gm_nx (pN D p) k)), vi 1]) kX9_sideOf_91 rfl ?_
        refine AQ.ic_le (tgt := 101) eX9_sideOf_94 (by decide) (by first | assumption | exact ⟨by omega, by omega⟩) (by first | assumption | exact ⟨by omega, by omega⟩) (fun br30 => ?_) (fun br30 => ?_)
        · skip
          refine q_blk (lv2 := [(0, vr n), (1, vi p), (2, vi x), (3, vi y), (4, vi v), (5, vi k), (6, vi (pX D p k)), (7, vi (pY D p k)), (8, vi (pX D p (gm_nx (pN D p) k))), (9, vi (pY D p (gm_nx (pN D p) k)))]) (st2 := [vi 0, vi 1]) kX9_sideOf_101 rfl ?_
          refine AQ.of (AS.ic_ne_t (tgt := 108) eX9_sideOf_102 (by decide) ⟨by decide, by decide⟩ ⟨by decide, by decide⟩ (by decide)) ?_
          refine q_blk (lv2 := [(0, vr n), (1, vi p), (2, vi x), (3, vi y), (4, vi v), (5, vi k), (6, vi (pX D p k)), (7, vi (pY D p k)), (8, vi (pX D p (gm_nx (pN D p) k))), (9, vi (pY D p (gm_nx (pN D p) k)))]) (st2 := [vi y, vi x, vi (pY D p (gm_nx (pN D p) k)), vi (pX D p (gm_nx (pN D p) k)), vi (pY D p k), vi (pX D p k)]) kX9_sideOf_108 rfl ?_
          refine q_Si (av := [vi (pX D p k), vi (pY D p k), vi (pX D p (gm_nx (pN D p) k)), vi (pY D p (gm_nx (pN D p) k)), vi x, vi y]) (st := []) c_X9_turn lk_RX9_46 (by decide) rfl rfl (Nat.le_of_ble_eq_true rfl) eX9_sideOf_118 (fun z31 e32 => ?_)
          subst e32
          have tr9 := gm_turn_r (ax := (pX D p k)) (ay := (pY D p k)) (bx := (pX D p (gm_nx (pN D p) k))) (by' := (pY D p (gm_nx (pN D p) k))) (px := x) (py := y) (by first | assumption | exact ⟨by omega, by omega⟩) (by first | assumption | exact ⟨by omega, by omega⟩) (by first | assumption | exact ⟨by omega, by omega⟩) (by first | assumption | exact ⟨by omega, by omega⟩) (by first | assumption | exact ⟨by omega, by omega⟩) (by first | assumption | exact ⟨by omega, by omega⟩)
          refine q_blk (lv2 := [(0, vr n), (1, vi p), (2, vi x), (3, vi y), (4, vi v), (5, vi k), (6, vi (pX D p k)), (7, vi (pY D p k)), (8, vi (pX D p (gm_nx (pN D p) k))), (9, vi (pY D p (gm_nx (pN D p) k))), (10, vi (gm_turn (pX D p k) (pY D p k) (pX D p (gm_nx (pN D p) k)) (pY D p (gm_nx (pN D p) k)) x y))]) (st2 := [vi (pY D p k), vi (pY D p (gm_nx (pN D p) k))]) kX9_sideOf_121 rfl ?_
          refine AQ.ic_le (tgt := 138) eX9_sideOf_127 (by decide) (by first | assumption | exact ⟨by omega, by omega⟩) (by first | assumption | exact ⟨by omega, by omega⟩) (fun br33 => ?_) (fun br33 => ?_)
          · skip
            refine q_blk (lv2 := [(0, vr n), (1, vi p), (2, vi x), (3, vi y), (4, vi v), (5, vi k), (6, vi (pX D p k)), (7, vi (pY D p k)), (8, vi (pX D p (gm_nx (pN D p) k))), (9, vi (pY D p (gm_nx (pN D p) k))), (10, vi (gm_turn (pX D p k) (pY D p k) (pX D p (gm_nx (pN D p) k)) (pY D p (gm_nx (pN D p) k)) x y))]) (st2 := [vi (gm_turn (pX D p k) (pY D p k) (pX D p (gm_nx (pN D p) k)) (pY D p (gm_nx (pN D p) k)) x y)]) kX9_sideOf_138 rfl ?_
            refine AQ.if_ge (tgt := 155) eX9_sideOf_140 (by decide) (by first | assumption | exact ⟨by omega, by omega⟩) (fun br34 => ?_) (fun br34 => ?_)
            · skip
              refine q_blk (lv2 := [(0, vr n), (1, vi p), (2, vi x), (3, vi y), (4, vi v), (5, vi (k + 1)), (6, vi (pX D p k)), (7, vi (pY D p k)), (8, vi (pX D p (gm_nx (pN D p) k))), (9, vi (pY D p (gm_nx (pN D p) k))), (10, vi (gm_turn (pX D p k) (pY D p k) (pX D p (gm_nx (pN D p) k)) (pY D p (gm_nx (pN D p) k)) x y))]) (st2 := []) kX9_sideOf_155 rfl ?_
              refine q_goto (tgt := 6) eX9_sideOf_158 (by decide) ?_
              refine q_sub (lv2 := [(0, vr n), (1, vi p), (2, vi x), (3, vi y), (4, vi v), (5, vi (k + 1))]) [0, 1, 2, 3, 4, 5] rfl ?_
              exact ih1 v (k + 1) (⟨⟨by omega, by omega⟩, by omega, fun q q0 q1 => by
        by_cases e : q = k
        · subst e; exact e20
        · exact hno q q0 (by omega), by
        rw [gm_od_s k0, ← hod]
        unfold gm_cx
        first
        | (rw [if_pos (by omega)]; omega)
        | (rw [if_neg (by omega)]; omega)⟩) (by omega)
            · skip
              refine q_blk (lv2 := [(0, vr n), (1, vi p), (2, vi x), (3, vi y), (4, vi v), (5, vi k), (6, vi (pX D p k)), (7, vi (pY D p k)), (8, vi (pX D p (gm_nx (pN D p) k))), (9, vi (pY D p (gm_nx (pN D p) k))), (10, vi (gm_turn (pX D p k) (pY D p k) (pX D p (gm_nx (pN D p) k)) (pY D p (gm_nx (pN D p) k)) x y))]) (st2 := [vi v]) kX9_sideOf_143 rfl ?_
              refine AQ.if_ne (tgt := 152) eX9_sideOf_145 (by decide) (by first | assumption | exact ⟨by omega, by omega⟩) (fun br35 => ?_) (fun br35 => ?_)
              · skip
                refine q_blk (lv2 := [(0, vr n), (1, vi p), (2, vi x), (3, vi y), (4, vi v), (5, vi k), (6, vi (pX D p k)), (7, vi (pY D p k)), (8, vi (pX D p (gm_nx (pN D p) k))), (9, vi (pY D p (gm_nx (pN D p) k))), (10, vi (gm_turn (pX D p k) (pY D p k) (pX D p (gm_nx (pN D p) k)) (pY D p (gm_nx (pN D p) k)) x y))]) (st2 := [vi 0]) kX9_sideOf_152 rfl ?_
                refine q_blk (lv2 := [(0, vr n), (1, vi p), (2, vi x), (3, vi y), (4, vi 0), (5, vi k), (6, vi (pX D p k)), (7, vi (pY D p k)), (8, vi (pX D p (gm_nx (pN D p) k))), (9, vi (pY D p (gm_nx (pN D p) k))), (10, vi (gm_turn (pX D p k) (pY D p k) (pX D p (gm_nx (pN D p) k)) (pY D p (gm_nx (pN D p) k)) x y))]) (st2 := []) kX9_sideOf_153 rfl ?_
                refine q_blk (lv2 := [(0, vr n), (1, vi p), (2, vi x), (3, vi y), (4, vi 0), (5, vi (k + 1)), (6, vi (pX D p k)), (7, vi (pY D p k)), (8, vi (pX D p (gm_nx (pN D p) k))), (9, vi (pY D p (gm_nx (pN D p) k))), (10, vi (gm_turn (pX D p k) (pY D p k) (pX D p (gm_nx (pN D p) k)) (pY D p (gm_nx (pN D p) k)) x y))]) (st2 := []) kX9_sideOf_155 rfl ?_
                refine q_goto (tgt := 6) eX9_sideOf_158 (by decide) ?_
                refine q_sub (lv2 := [(0, vr n), (1, vi p), (2, vi x), (3, vi y), (4, vi 0), (5, vi (k + 1))]) [0, 1, 2, 3, 4, 5] rfl ?_
                exact ih1 0 (k + 1) (⟨⟨by omega, by omega⟩, by omega, fun q q0 q1 => by
        by_cases e : q = k
        · subst e; exact e20
        · exact hno q q0 (by omega), by
        rw [gm_od_s k0, ← hod]
        unfold gm_cx
        first
        | (rw [if_pos (by omega)]; omega)
        | (rw [if_neg (by omega)]; omega)⟩) (by omega)
              · skip
                refine q_blk (lv2 := [(0, vr n), (1, vi p), (2, vi x), (3, vi y), (4, vi v), (5, vi k), (6, vi (pX D p k)), (7, vi (pY D p k)), (8, vi (pX D p (gm_nx (pN D p) k))), (9, vi (pY D p (gm_nx (pN D p) k))), (10, vi (gm_turn (pX D p k) (pY D p k) (pX D p (gm_nx (pN D p) k)) (pY D p (gm_nx (pN D p) k)) x y))]) (st2 := [vi 1]) kX9_sideOf_148 rfl ?_
                refine q_goto (tgt := 153) eX9_sideOf_149 (by decide) ?_
                refine q_blk (lv2 := [(0, vr n), (1, vi p), (2, vi x), (3, vi y), (4, vi 1), (5, vi k), (6, vi (pX D p k)), (7, vi (pY D p k)), (8, vi (pX D p (gm_nx (pN D p) k))), (9, vi (pY D p (gm_nx (pN D p) k))), (10, vi (gm_turn (pX D p k) (pY D p k) (pX D p (gm_nx (pN D p) k)) (pY D p (gm_nx (pN D p) k)) x y))]) (st2 := []) kX9_sideOf_153 rfl ?_
                refine q_blk (lv2 := [(0, vr n), (1, vi p), (2, vi x), (3, vi y), (4, vi 1), (5, vi (k + 1)), (6, vi (pX D p k)), (7, vi (pY D p k)), (8, vi (pX D p (gm_nx (pN D p) k))), (9, vi (pY D p (gm_nx (pN D p) k))), (10, vi (gm_turn (pX D p k) (pY D p k) (pX D p (gm_nx (pN D p) k)) (pY D p (gm_nx (pN D p) k)) x y))]) (st2 := []) kX9_sideOf_155 rfl ?_
                refine q_goto (tgt := 6) eX9_sideOf_158 (by decide) ?_
                refine q_sub (lv2 := [(0, vr n), (1, vi p), (2, vi x), (3, vi y), (4, vi 1), (5, vi (k + 1))]) [0, 1, 2, 3, 4, 5] rfl ?_
                exact ih1 1 (k + 1) (⟨⟨by omega, by omega⟩, by omega, fun q q0 q1 => by
        by_cases e : q = k
        · subst e; exact e20
        · exact hno q q0 (by omega), by
        rw [gm_od_s k0, ← hod]
        unfold gm_cx
        first
        | (rw [if_pos (by omega)]; omega)
        | (rw [if_neg (by omega)]; omega)⟩) (by omega)
          · skip
            refine q_blk (lv2 := [(0, vr n), (1, vi p), (2, vi x), (3, vi y), (4, vi v), (5, vi k), (6, vi (pX D p k)), (7, vi (pY D p k)), (8, vi (pX D p (gm_nx (pN D p) k))), (9, vi (pY D p (gm_nx (pN D p) k))), (10, vi (gm_turn (pX D p k) (pY D p k) (pX D p (gm_nx (pN D p) k)) (pY D p (gm_nx (pN D p) k)) x y))]) (st2 := [vi (gm_turn (pX D p k) (pY D p k) (pX D p (gm_nx (pN D p) k)) (pY D p (gm_nx (pN D p) k)) x y)]) kX9_sideOf_130 rfl ?_
            refine AQ.if_le (tgt := 155) eX9_sideOf_132 (by decide) (by first | assumption | exact ⟨by omega, by omega⟩) (fun br36 => ?_) (fun br36 => ?_)
            · skip
              refine q_blk (lv2 := [(0, vr n), (1, vi p), (2, vi x), (3, vi y), (4, vi v), (5, vi (k + 1)), (6, vi (pX D p k)), (7, vi (pY D p k)), (8, vi (pX D p (gm_nx (pN D p) k))), (9, vi (pY D p (gm_nx (pN D p) k))), (10, vi (gm_turn (pX D p k) (pY D p k) (pX D p (gm_nx (pN D p) k)) (pY D p (gm_nx (pN D p) k)) x y))]) (st2 := []) kX9_sideOf_155 rfl ?_
              refine q_goto (tgt := 6) eX9_sideOf_158 (by decide) ?_
              refine q_sub (lv2 := [(0, vr n), (1, vi p), (2, vi x), (3, vi y), (4, vi v), (5, vi (k + 1))]) [0, 1, 2, 3, 4, 5] rfl ?_
              exact ih1 v (k + 1) (⟨⟨by omega, by omega⟩, by omega, fun q q0 q1 => by
        by_cases e : q = k
        · subst e; exact e20
        · exact hno q q0 (by omega), by
        rw [gm_od_s k0, ← hod]
        unfold gm_cx
        first
        | (rw [if_pos (by omega)]; omega)
        | (rw [if_neg (by omega)]; omega)⟩) (by omega)
            · skip
              refine q_goto (tgt := 143) eX9_sideOf_135 (by decide) ?_
              refine q_blk (lv2 := [(0, vr n), (1, vi p), (2, vi x), (3, vi y), (4, vi v), (5, vi k), (6, vi (pX D p k)), (7, vi (pY D p k)), (8, vi (pX D p (gm_nx (pN D p) k))), (9, vi (pY D p (gm_nx (pN D p) k))), (10, vi (gm_turn (pX D p k) (pY D p k) (pX D p (gm_nx (pN D p) k)) (pY D p (gm_nx (pN D p) k)) x y))]) (st2 := [vi v]) kX9_sideOf_143 rfl ?_
              refine AQ.if_ne (tgt := 152) eX9_sideOf_145 (by decide) (by first | assumption | exact ⟨by omega, by omega⟩) (fun br37 => ?_) (fun br37 => ?_)
              · skip
                refine q_blk (lv2 := [(0, vr n), (1, vi p), (2, vi x), (3, vi y), (4, vi v), (5, vi k), (6, vi (pX D p k)), (7, vi (pY D p k)), (8, vi (pX D p (gm_nx (pN D p) k))), (9, vi (pY D p (gm_nx (pN D p) k))), (10, vi (gm_turn (pX D p k) (pY D p k) (pX D p (gm_nx (pN D p) k)) (pY D p (gm_nx (pN D p) k)) x y))]) (st2 := [vi 0]) kX9_sideOf_152 rfl ?_
                refine q_blk (lv2 := [(0, vr n), (1, vi p), (2, vi x), (3, vi y), (4, vi 0), (5, vi k), (6, vi (pX D p k)), (7, vi (pY D p k)), (8, vi (pX D p (gm_nx (pN D p) k))), (9, vi (pY D p (gm_nx (pN D p) k))), (10, vi (gm_turn (pX D p k) (pY D p k) (pX D p (gm_nx (pN D p) k)) (pY D p (gm_nx (pN D p) k)) x y))]) (st2 := []) kX9_sideOf_153 rfl ?_
                refine q_blk (lv2 := [(0, vr n), (1, vi p), (2, vi x), (3, vi y), (4, vi 0), (5, vi (k + 1)), (6, vi (pX D p k)), (7, vi (pY D p k)), (8, vi (pX D p (gm_nx (pN D p) k))), (9, vi (pY D p (gm_nx (pN D p) k))), (10, vi (gm_turn (pX D p k) (pY D p k) (pX D p (gm_nx (pN D p) k)) (pY D p (gm_nx (pN D p) k)) x y))]) (st2 := []) kX9_sideOf_155 rfl ?_
                refine q_goto (tgt := 6) eX9_sideOf_158 (by decide) ?_
                refine q_sub (lv2 := [(0, vr n), (1, vi p), (2, vi x), (3, vi y), (4, vi 0), (5, vi (k + 1))]) [0, 1, 2, 3, 4, 5] rfl ?_
                exact ih1 0 (k + 1) (⟨⟨by omega, by omega⟩, by omega, fun q q0 q1 => by
        by_cases e : q = k
        · subst e; exact e20
        · exact hno q q0 (by omega), by
        rw [gm_od_s k0, ← hod]
        unfold gm_cx
        first
        | (rw [if_pos (by omega)]; omega)
        | (rw [if_neg (by omega)]; omega)⟩) (by omega)
              · skip
                refine q_blk (lv2 := [(0, vr n), (1, vi p), (2, vi x), (3, vi y), (4, vi v), (5, vi k), (6, vi (pX D p k)), (7, vi (pY D p k)), (8, vi (pX D p (gm_nx (pN D p) k))), (9, vi (pY D p (gm_nx (pN D p) k))), (10, vi (gm_turn (pX D p k) (pY D p k) (pX D p (gm_nx (pN D p) k)) (pY D p (gm_nx (pN D p) k)) x y))]) (st2 := [vi 1]) kX9_sideOf_148 rfl ?_
                refine q_goto (tgt := 153) eX9_sideOf_149 (by decide) ?_
                refine q_blk (lv2 := [(0, vr n), (1, vi p), (2, vi x), (3, vi y), (4, vi 1), (5, vi k), (6, vi (pX D p k)), (7, vi (pY D p k)), (8, vi (pX D p (gm_nx (pN D p) k))), (9, vi (pY D p (gm_nx (pN D p) k))), (10, vi (gm_turn (pX D p k) (pY D p k) (pX D p (gm_nx (pN D p) k)) (pY D p (gm_nx (pN D p) k)) x y))]) (st2 := []) kX9_sideOf_153 rfl ?_
                refine q_blk (lv2 := [(0, vr n), (1, vi p), (2, vi x), (3, vi y), (4, vi 1), (5, vi (k + 1)), (6, vi (pX D p k)), (7, vi (pY D p k)), (8, vi (pX D p (gm_nx (pN D p) k))), (9, vi (pY D p (gm_nx (pN D p) k))), (10, vi (gm_turn (pX D p k) (pY D p k) (pX D p (gm_nx (pN D p) k)) (pY D p (gm_nx (pN D p) k)) x y))]) (st2 := []) kX9_sideOf_155 rfl ?_
                refine q_goto (tgt := 6) eX9_sideOf_158 (by decide) ?_
                refine q_sub (lv2 := [(0, vr n), (1, vi p), (2, vi x), (3, vi y), (4, vi 1), (5, vi (k + 1))]) [0, 1, 2, 3, 4, 5] rfl ?_
                exact ih1 1 (k + 1) (⟨⟨by omega, by omega⟩, by omega, fun q q0 q1 => by
        by_cases e : q = k
        · subst e; exact e20
        · exact hno q q0 (by omega), by
        rw [gm_od_s k0, ← hod]
        unfold gm_cx
        first
        | (rw [if_pos (by omega)]; omega)
        | (rw [if_neg (by omega)]; omega)⟩) (by omega)
        · skip
          refine q_blk (lv2 := [(0, vr n), (1, vi p), (2, vi x), (3, vi y), (4, vi v), (5, vi k), (6, vi (pX D p k)), (7, vi (pY D p k)), (8, vi (pX D p (gm_nx (pN D p) k))), (9, vi (pY D p (gm_nx (pN D p) k)))]) (st2 := [vi 1, vi 1]) kX9_sideOf_97 rfl ?_
          refine q_goto (tgt := 102) eX9_sideOf_98 (by decide) ?_
          refine AQ.of (AS.ic_ne_f eX9_sideOf_102 ⟨by decide, by decide⟩ ⟨by decide, by decide⟩ (by decide) (by decide)) ?_
          refine q_goto (tgt := 155) eX9_sideOf_105 (by decide) ?_
          refine q_blk (lv2 := [(0, vr n), (1, vi p), (2, vi x), (3, vi y), (4, vi v), (5, vi (k + 1)), (6, vi (pX D p k)), (7, vi (pY D p k)), (8, vi (pX D p (gm_nx (pN D p) k))), (9, vi (pY D p (gm_nx (pN D p) k)))]) (st2 := []) kX9_sideOf_155 rfl ?_
          refine q_goto (tgt := 6) eX9_sideOf_158 (by decide) ?_
          refine q_sub (lv2 := [(0, vr n), (1, vi p), (2, vi x), (3, vi y), (4, vi v), (5, vi (k + 1))]) [0, 1, 2, 3, 4, 5] rfl ?_
          exact ih1 v (k + 1) (⟨⟨by omega, by omega⟩, by omega, fun q q0 q1 => by
        by_cases e : q = k
        · subst e; exact e20
        · exact hno q q0 (by omega), by
        rw [gm_od_s k0, ← hod]
        unfold gm_cx
        first
        | (rw [if_pos (by omega)]; omega)
        | (rw [if_neg (by omega)]; omega)⟩) (by omega)
