/-! CornerClaimsModel: stones and polygons of its text. -/
section RDS
variable {kd st vl : Int → Int} {w hh he x y v : Int} {e : Int × Int} {D : Int → Int}
theorem rN_v {lo hi z : Int} (h : rN kd st vl lo hi he = .inr z) : kd he = 2 ∧ lo ≤ z ∧ z ≤ hi := by
  unfold rN at h
  by_cases c : kd he = 2
  · rw [if_pos c] at h
    by_cases c2 : lo ≤ vl he ∧ vl he ≤ hi
    · rw [if_pos c2] at h; cases h; exact ⟨c, c2⟩
    · rw [if_neg c2] at h; cases h
  · rw [if_neg c] at h; cases h
theorem rP_1 (h : rN kd st vl 0 w he = .inl e) : rP kd st vl w hh he = .inl e := rB_l h _
theorem rP_2 (h1 : rN kd st vl 0 w he = .inr x) (h2 : rN kd st vl 0 hh (he + 1) = .inl e) : rP kd st vl w hh he = .inl e := (rB_r h1 _).trans (rB_l h2 _)
theorem rP_3 (h1 : rN kd st vl 0 w he = .inr x) (h2 : rN kd st vl 0 hh (he + 1) = .inr y) : rP kd st vl w hh he = .inr (x, y) := (rB_r h1 _).trans (rB_r h2 _)
theorem rS0_0 (h : ¬ D 2 < 20) : rS0 kd st vl D he = .inl (-5, st he) := if_neg h
theorem rS0_1 (h : D 2 < 20) (hP : rP kd st vl (D 0) (D 1) (he + 1) = .inl e) : rS0 kd st vl D he = .inl e := (if_pos h).trans (rB_l hP _)
theorem rS0_3 (h : D 2 < 20) (hP : rP kd st vl (D 0) (D 1) (he + 1) = .inr (x, y)) (ho : gm_oc D x y) : rS0 kd st vl D he = .inl (-4, st (he + 1 + 1)) := (if_pos h).trans ((rB_r hP _).trans (gm_ite_t ho))
theorem rS0_4 (h : D 2 < 20) (hP : rP kd st vl (D 0) (D 1) (he + 1) = .inr (x, y)) (ho : ¬ gm_oc D x y) (h3 : rN kd st vl 1 99 (he + 1 + 1 + 1) = .inl e) : rS0 kd st vl D he = .inl e := (if_pos h).trans ((rB_r hP _).trans ((gm_ite_f ho).trans (rB_l h3 _)))
theorem rS0_5 (h : D 2 < 20) (hP : rP kd st vl (D 0) (D 1) (he + 1) = .inr (x, y)) (ho : ¬ gm_oc D x y) (h3 : rN kd st vl 1 99 (he + 1 + 1 + 1) = .inr v) : rS0 kd st vl D he = .inr (gm_addS D x y v) := (if_pos h).trans ((rB_r hP _).trans ((gm_ite_f ho).trans (rB_r h3 _)))
end RDS
theorem gm_addS_m {E : Int → Int} (h : 0 ≤ E 2) (x y v : Int) : am_uI (am_uI (am_uI (am_uI E (6 + 3 * E 2) x) (6 + 3 * E 2 + 1) y) (6 + 3 * E 2 + 2) v) 2 (am_uI (am_uI (am_uI E (6 + 3 * E 2) x) (6 + 3 * E 2 + 1) y) (6 + 3 * E 2 + 2) v 2 + 1) = gm_addS E x y v := by
  rw [am_uI_ne (i := 6 + 3 * E 2 + 2) (j := 2) _ _ (by omega), am_uI_ne (i := 6 + 3 * E 2 + 1) (j := 2) _ _ (by omega), am_uI_ne (i := 6 + 3 * E 2) (j := 2) _ _ (by omega), show 6 + 3 * E 2 + 1 = 7 + 3 * E 2 by omega, show 6 + 3 * E 2 + 2 = 8 + 3 * E 2 by omega]
  rfl
theorem gm_addS_up {E : Int → Int} (h : 0 ≤ E 2 ∧ E 2 < 20) (x y v : Int) : gm_up E (gm_addS E x y v) := ⟨gm_addS_o (by omega) (by omega), gm_addS_o (by omega) (by omega), fun i hi => gm_addS_o (by omega) (by omega)⟩

set_option maxHeartbeats 1000000 in
theorem c_X9_once_g {w : am_w} {h : AH} {n : Nat} {th bl tl ps ea eo ud g0 g1 g2 g3 ns ne se : Int} {E : Int → Int} (hm : MM h n th bl tl ps 0 ea eo ud g0 g1 g2 g3 ns ne se E) (hse : se = 0 ∨ se = 1) {a : Int}  : AE w m_X9_once 2 [vr n, vi 0, vi a] h (am_unit (fun h1 => ((se = 0 ∧ MM h1 n th bl tl ps 0 ea eo ud g0 g1 g2 g3 ns ne 1 E) ∨ (se = 1 ∧ MM h1 n th bl tl ps (-2) a eo ud g0 g1 g2 g3 ns ne 1 E)) ∧ am_f2 h h1 n)) := by
  refine AE.of wf_X9_once (Nat.le_of_ble_eq_true rfl) (am_ok_v) ?_
  obtain ⟨m0, m1⟩ := id hm
  have hb : True := trivial
  refine q_blk (lv2 := [(0, vr n), (1, vi 0), (2, vi a)]) (st2 := [vr n]) kX9_once_0 rfl ?_
  refine q_gi eX9_once_1 fl_RX9_209 (Or.inl rfl) m0 (z := se) rfl ?_
  refine q_blk (lv2 := [(0, vr n), (1, vi 0), (2, vi a)]) (st2 := [vi 0, vi se]) kX9_once_4 rfl ?_
  refine AQ.of (AS.ishr (a := se) (b := 0) eX9_once_5 ⟨by omega, by omega⟩ (by decide) (by decide)) ?_
  rw [show se / (((2 ^ Int.toNat 0 : Nat)) : Int) = se from Int.ediv_one _]
  refine q_blk (lv2 := [(0, vr n), (1, vi 0), (2, vi a)]) (st2 := [vi 1, vi se]) kX9_once_6 rfl ?_
  refine AQ.of (AS.iand1 eX9_once_7) ?_
  refine q_blk (lv2 := [(0, vr n), (1, vi 0), (2, vi a)]) (st2 := [vi 1, vi (se % 2)]) kX9_once_8 rfl ?_
  refine AQ.ic_ne (tgt := 19) eX9_once_9 (by decide) (by first | assumption | exact ⟨by omega, by omega⟩) ⟨by decide, by decide⟩ (fun br1 => ?_) (fun br1 => ?_)
  · skip
    refine q_blk (lv2 := [(0, vr n), (1, vi 0), (2, vi a)]) (st2 := [vr n, vr n]) kX9_once_19 rfl ?_
    refine q_gi eX9_once_21 fl_RX9_209 (Or.inl rfl) m0 (z := se) rfl ?_
    refine q_blk (lv2 := [(0, vr n), (1, vi 0), (2, vi a)]) (st2 := [vi 0, vi 1, vi se, vr n]) kX9_once_24 rfl ?_
    refine AQ.of (AS.ishl0 eX9_once_26) ?_
    refine AQ.of (AS.ior1 (a := se) eX9_once_27 (by omega)) ?_
    refine q_pi eX9_once_28 fl_RX9_209 (fun q hq => by cases hq; exact Or.inl rfl) (Or.inl rfl) m0 (Nat.le_of_ble_eq_true rfl) (l2 := [th, 0, bl, tl, ps, 0, ea, eo, 0, 0, 0, ud, g0, g1, g2, g3, ns, ne, 1, 0]) rfl (fun h2 e3 => ?_)
    have k4 := am_at e3
    have k5 := (am_ne e3 (n + 2) (by omega)).trans m1
    exact q_rv rfl eX9_once_31 ⟨rfl, Or.inl ⟨by omega, ⟨k4, k5⟩⟩, (am_f2.rf).tr ((am_fr.st e3 (by omega) (by omega) : am_fr _ _ n (n + 1)).f2)⟩
  · skip
    refine q_blk (lv2 := [(0, vr n), (1, vi 0), (2, vi a)]) (st2 := [vi a, vi (-2), vr n]) kX9_once_12 rfl ?_
    refine AQ.callVv (av := [vi (-2), vi a]) (st := []) (c_X9_report_g hm (k := (-2)) (a := a)) lk_RX9_162 (by decide) rfl rfl hm.ob ⟨_, rfl, rfl⟩ (Nat.le_of_ble_eq_true rfl) eX9_once_16 (fun h8 e7 => ?_)
    obtain ⟨Mh8, Fh8⟩ := e7
    obtain ⟨m0h8, m1h8⟩ := id Mh8
    refine q_blk (lv2 := [(0, vr n), (1, vi 0), (2, vi a)]) (st2 := [vr n, vr n]) kX9_once_19 rfl ?_
    refine q_gi eX9_once_21 fl_RX9_209 (Or.inl rfl) m0h8 (z := se) rfl ?_
    refine q_blk (lv2 := [(0, vr n), (1, vi 0), (2, vi a)]) (st2 := [vi 0, vi 1, vi se, vr n]) kX9_once_24 rfl ?_
    refine AQ.of (AS.ishl0 eX9_once_26) ?_
    refine AQ.of (AS.ior1 (a := se) eX9_once_27 (by omega)) ?_
    refine q_pi eX9_once_28 fl_RX9_209 (fun q hq => by cases hq; exact Or.inl rfl) (Or.inl rfl) m0h8 (Nat.le_of_ble_eq_true rfl) (l2 := [th, 0, bl, tl, ps, (-2), a, eo, 0, 0, 0, ud, g0, g1, g2, g3, ns, ne, 1, 0]) rfl (fun h9 e10 => ?_)
    have k11 := am_at e10
    have k12 := (am_ne e10 (n + 2) (by omega)).trans m1h8
    exact q_rv rfl eX9_once_31 ⟨rfl, Or.inr ⟨by omega, ⟨k11, k12⟩⟩, (Fh8.f2).tr ((am_fr.st e10 (by omega) (by omega) : am_fr _ _ n (n + 1)).f2)⟩

set_option maxHeartbeats 4000000 in
theorem c_X9_readStone {w : am_w} {h : AH} {n : Nat} {th bl tl ps ea eo ud g0 g1 g2 g3 ns ne se : Int} {E : Int → Int} (hm : MM h n th bl tl ps 0 ea eo ud g0 g1 g2 g3 ns ne se E) {bf : Int → Int} (hb : h.1 (n + 1) = some (100, 800, bf, am_N)) (hl : 0 ≤ tl ∧ tl ≤ 800) {tx kd st vl : Int → Int} {N : Int} (hx : BX bf tx tl) (hg : TG tx kd st vl tl N) {i : Int} (i0 : 0 ≤ i) (hp : TP tx st N ps (i + 1)) {D : Int → Int} (hD : VD D) (hs : gm_same D E)  : AE w m_X9_readStone 5 [vr n, vi (st i)] h (am_unit (fun h1 => ((∃ D' E' px ns', rS0 kd st vl D i = .inr D' ∧ gm_same D' E' ∧ VD D' ∧ gm_up E E' ∧ TP tx st N px (i + 1 + 1 + 1 + 1) ∧ MM h1 n th bl tl px 0 ea eo ud g0 g1 g2 g3 ns' ne se E') ∨ (∃ e a px ns' E', rS0 kd st vl D i = .inl (e, a) ∧ (e ≠ 0 ∧ am_r e) ∧ MM h1 n th bl tl px e a eo ud g0 g1 g2 g3 ns' ne se E')) ∧ am_f2 h h1 n)) := by
  refine AE.of wf_X9_readStone (Nat.le_of_ble_eq_true rfl) (am_ok_v) ?_
  obtain ⟨m0, m1⟩ := id hm
  have hE := hD.same hs
  obtain ⟨e0, e1, e2, e3, e4, e5⟩ := id hs
  have d0 := hD.1
  have d1 := hD.2.1
  have d2 := hD.2.2.1
  have d3 := hD.2.2.2.1
  refine q_blk (lv2 := [(0, vr n), (1, vi (st i))]) (st2 := [vr n]) kX9_readStone_0 rfl ?_
  refine q_gr eX9_readStone_1 fl_RX9_17 (Or.inr ⟨_, rfl⟩) m0 rfl ?_
  refine q_blk (lv2 := [(0, vr n), (1, vi (st i))]) (st2 := [vi 2, vr (n + 2)]) kX9_readStone_4 rfl ?_
  refine q_ia eX9_readStone_5 m1 (by decide) (by omega) (by omega) (z := (E 2)) rfl ?_
  refine q_blk (lv2 := [(0, vr n), (1, vi (st i))]) (st2 := [vi 20, vi (E 2)]) kX9_readStone_6 rfl ?_
  refine AQ.ic_ne (tgt := 18) eX9_readStone_8 (by decide) (by first | assumption | exact ⟨by omega, by omega⟩) ⟨by decide, by decide⟩ (fun br1 => ?_) (fun br1 => ?_)
  · skip
    refine q_blk (lv2 := [(0, vr n), (1, vi (st i))]) (st2 := [vr n, vi 0, vr n]) kX9_readStone_18 rfl ?_
    refine q_gr eX9_readStone_21 fl_RX9_17 (Or.inr ⟨_, rfl⟩) m0 rfl ?_
    refine q_blk (lv2 := [(0, vr n), (1, vi (st i))]) (st2 := [vi 0, vr (n + 2), vi 0, vr n]) kX9_readStone_24 rfl ?_
    refine q_ia eX9_readStone_25 m1 (by decide) (by omega) (by omega) (z := (E 0)) rfl ?_
    refine AQ.callVi (av := [vi 0, vi (E 0)]) (st := []) (c_X9_number_g hm hb hl hx hg hp (lo := 0) (hi := (E 0)) (by omega) (by omega) (by omega)) lk_RX9_197 (by decide) rfl rfl hm.ob ⟨_, rfl, rfl⟩ (Nat.le_of_ble_eq_true rfl) eX9_readStone_26 (fun z2 h4 e3 => ?_)
    rcases e3 with ⟨⟨pxh4, Kh4, K2h4, Th4, Mh4⟩ | ⟨pxh4, nh4, eh4, ah4, Kh4, Zh4, Mh4⟩, z0h4, z1h4, Vh4⟩
    · skip
      have Yh4' : am_f2 h h4 n := Vh4
      have hbh4 : h4.1 (n + 1) = some (100, 800, bf, am_N) := (Yh4'.2 (n + 1) (by omega) (by omega)).trans hb
      obtain ⟨m0h4, m1h4⟩ := id Mh4
      have NVh4 := rN_v Kh4
      refine q_blk (lv2 := [(0, vr n), (1, vi (st i)), (2, vi z2)]) (st2 := [vr n, vi 0, vr n]) kX9_readStone_29 rfl ?_
      refine q_gr eX9_readStone_33 fl_RX9_17 (Or.inr ⟨_, rfl⟩) m0h4 rfl ?_
      refine q_blk (lv2 := [(0, vr n), (1, vi (st i)), (2, vi z2)]) (st2 := [vi 1, vr (n + 2), vi 0, vr n]) kX9_readStone_36 rfl ?_
      refine q_ia eX9_readStone_37 m1h4 (by decide) (by omega) (by omega) (z := (E 1)) rfl ?_
      refine AQ.callVi (av := [vi 0, vi (E 1)]) (st := []) (c_X9_number_g Mh4 hbh4 hl hx hg Th4 (lo := 0) (hi := (E 1)) (by omega) (by omega) (by omega)) lk_RX9_197 (by decide) rfl rfl Mh4.ob ⟨_, rfl, rfl⟩ (Nat.le_of_ble_eq_true rfl) eX9_readStone_38 (fun z5 h7 e6 => ?_)
      rcases e6 with ⟨⟨pxh7, Kh7, K2h7, Th7, Mh7⟩ | ⟨pxh7, nh7, eh7, ah7, Kh7, Zh7, Mh7⟩, z0h7, z1h7, Vh7⟩
      · skip
        have Yh7' : am_f2 h h7 n := Yh4'.tr Vh7
        have hbh7 : h7.1 (n + 1) = some (100, 800, bf, am_N) := (Yh7'.2 (n + 1) (by omega) (by omega)).trans hb
        obtain ⟨m0h7, m1h7⟩ := id Mh7
        have NVh7 := rN_v Kh7
        refine q_blk (lv2 := [(0, vr n), (1, vi (st i)), (2, vi z2), (3, vi z5)]) (st2 := [vr n]) kX9_readStone_41 rfl ?_
        refine q_Vi (av := []) (st := []) (c_X9_isGood_g Mh7) lk_RX9_145 (by decide) rfl rfl Mh7.ob ⟨_, rfl, rfl⟩ (Nat.le_of_ble_eq_true rfl) eX9_readStone_43 (fun z8 e9 => ?_)
        subst e9
        refine AQ.of (AS.if_eq_f eX9_readStone_46 ⟨by decide, by decide⟩ (by decide) (by decide)) ?_
        refine q_blk (lv2 := [(0, vr n), (1, vi (st i)), (2, vi z2), (3, vi z5)]) (st2 := [vi z5, vi z2, vr n]) kX9_readStone_49 rfl ?_
        refine q_Vi (av := [vi z2, vi z5]) (st := []) (c_X9_isTaken Mh7 hE (x := z2) (y := z5) ⟨by omega, by omega⟩ ⟨by omega, by omega⟩) lk_RX9_110 (by decide) rfl rfl Mh7.ob ⟨_, rfl, rfl⟩ (Nat.le_of_ble_eq_true rfl) eX9_readStone_52 (fun z10 e11 => ?_)
        rcases e11 with ⟨rfl, e11⟩ | ⟨rfl, e11⟩
        · skip
          refine AQ.of (AS.if_ne_t (tgt := 67) eX9_readStone_55 (by decide) ⟨by decide, by decide⟩ (by decide)) ?_
          refine q_blk (lv2 := [(0, vr n), (1, vi (st i)), (2, vi z2), (3, vi z5)]) (st2 := [vr n, vi (-4), vr n]) kX9_readStone_67 rfl ?_
          refine q_gi eX9_readStone_71 fl_RX9_169 (Or.inl rfl) m0h7 (z := (st ((i + 1) + 1))) rfl ?_
          refine AQ.callVv (av := [vi (-4), vi (st ((i + 1) + 1))]) (st := []) (c_X9_report_g Mh7 (k := (-4)) (a := (st ((i + 1) + 1)))) lk_RX9_162 (by decide) rfl rfl Mh7.ob ⟨_, rfl, rfl⟩ (Nat.le_of_ble_eq_true rfl) eX9_readStone_74 (fun h14 e13 => ?_)
          obtain ⟨Mh14, Fh14⟩ := e13
          have Vh14 : am_f2 h h14 n := Yh7'.tr (Fh14.f2)
          have hbh14 : h14.1 (n + 1) = some (100, 800, bf, am_N) := (Vh14.2 (n + 1) (by omega) (by omega)).trans hb
          obtain ⟨m0h14, m1h14⟩ := id Mh14
          have Yh14 : ((-4) : Int) ≠ 0 ∧ am_r (-4) := ⟨by decide, by decide, by decide⟩
          refine q_blk (lv2 := [(0, vr n), (1, vi (st i)), (2, vi z2), (3, vi z5)]) (st2 := [vi 99, vi 1, vr n]) kX9_readStone_77 rfl ?_
          refine q_Vi (av := [vi 1, vi 99]) (st := []) (c_X9_number_b Mh14 Yh14 (lo := 1) (hi := 99)) lk_RX9_197 (by decide) rfl rfl Mh14.ob ⟨_, rfl, rfl⟩ (Nat.le_of_ble_eq_true rfl) eX9_readStone_81 (fun z15 e16 => ?_)
          subst e16
          refine q_blk (lv2 := [(0, vr n), (1, vi (st i)), (2, vi z2), (3, vi z5), (4, vi 0)]) (st2 := [vr n]) kX9_readStone_84 rfl ?_
          refine q_Vi (av := []) (st := []) (c_X9_isGood_b Mh14 Yh14) lk_RX9_145 (by decide) rfl rfl Mh14.ob ⟨_, rfl, rfl⟩ (Nat.le_of_ble_eq_true rfl) eX9_readStone_87 (fun z17 e18 => ?_)
          subst e18
          refine AQ.of (AS.if_ne_f eX9_readStone_90 ⟨by decide, by decide⟩ (by decide) (by decide)) ?_
          exact q_rv rfl eX9_readStone_93 ⟨rfl, Or.inr ⟨_, _, _, _, _, rS0_3 (by omega) (rP_3 (by rw [← e0]; exact Kh4) (by rw [← e1]; exact Kh7)) ((gm_oc_s hD hs).mpr (Or.inl e11)), Yh14, Mh14⟩, Vh14⟩
        · skip
          refine AQ.of (AS.if_ne_f eX9_readStone_55 ⟨by decide, by decide⟩ (by decide) (by decide)) ?_
          refine q_blk (lv2 := [(0, vr n), (1, vi (st i)), (2, vi z2), (3, vi z5)]) (st2 := [vi z5, vi z2, vr n]) kX9_readStone_58 rfl ?_
          refine q_Vi (av := [vi z2, vi z5]) (st := []) (c_X9_isOnSide Mh7 hE (x := z2) (y := z5) ⟨by omega, by omega⟩ ⟨by omega, by omega⟩) lk_RX9_212 (by decide) rfl rfl Mh7.ob ⟨_, rfl, rfl⟩ (Nat.le_of_ble_eq_true rfl) eX9_readStone_61 (fun z19 e20 => ?_)
          rcases e20 with ⟨rfl, e20⟩ | ⟨rfl, e20⟩
          · skip
            refine AQ.of (AS.if_eq_f eX9_readStone_64 ⟨by decide, by decide⟩ (by decide) (by decide)) ?_
            refine q_blk (lv2 := [(0, vr n), (1, vi (st i)), (2, vi z2), (3, vi z5)]) (st2 := [vr n, vi (-4), vr n]) kX9_readStone_67 rfl ?_
            refine q_gi eX9_readStone_71 fl_RX9_169 (Or.inl rfl) m0h7 (z := (st ((i + 1) + 1))) rfl ?_
            refine AQ.callVv (av := [vi (-4), vi (st ((i + 1) + 1))]) (st := []) (c_X9_report_g Mh7 (k := (-4)) (a := (st ((i + 1) + 1)))) lk_RX9_162 (by decide) rfl rfl Mh7.ob ⟨_, rfl, rfl⟩ (Nat.le_of_ble_eq_true rfl) eX9_readStone_74 (fun h23 e22 => ?_)
            obtain ⟨Mh23, Fh23⟩ := e22
            have Vh23 : am_f2 h h23 n := Yh7'.tr (Fh23.f2)
            have hbh23 : h23.1 (n + 1) = some (100, 800, bf, am_N) := (Vh23.2 (n + 1) (by omega) (by omega)).trans hb
            obtain ⟨m0h23, m1h23⟩ := id Mh23
            have Yh23 : ((-4) : Int) ≠ 0 ∧ am_r (-4) := ⟨by decide, by decide, by decide⟩
            refine q_blk (lv2 := [(0, vr n), (1, vi (st i)), (2, vi z2), (3, vi z5)]) (st2 := [vi 99, vi 1, vr n]) kX9_readStone_77 rfl ?_
            refine q_Vi (av := [vi 1, vi 99]) (st := []) (c_X9_number_b Mh23 Yh23 (lo := 1) (hi := 99)) lk_RX9_197 (by decide) rfl rfl Mh23.ob ⟨_, rfl, rfl⟩ (Nat.le_of_ble_eq_true rfl) eX9_readStone_81 (fun z24 e25 => ?_)
            subst e25
            refine q_blk (lv2 := [(0, vr n), (1, vi (st i)), (2, vi z2), (3, vi z5), (4, vi 0)]) (st2 := [vr n]) kX9_readStone_84 rfl ?_
            refine q_Vi (av := []) (st := []) (c_X9_isGood_b Mh23 Yh23) lk_RX9_145 (by decide) rfl rfl Mh23.ob ⟨_, rfl, rfl⟩ (Nat.le_of_ble_eq_true rfl) eX9_readStone_87 (fun z26 e27 => ?_)
            subst e27
            refine AQ.of (AS.if_ne_f eX9_readStone_90 ⟨by decide, by decide⟩ (by decide) (by decide)) ?_
            exact q_rv rfl eX9_readStone_93 ⟨rfl, Or.inr ⟨_, _, _, _, _, rS0_3 (by omega) (rP_3 (by rw [← e0]; exact Kh4) (by rw [← e1]; exact Kh7)) ((gm_oc_s hD hs).mpr (Or.inr e20)), Yh23, Mh23⟩, Vh23⟩
          · skip
            refine AQ.of (AS.if_eq_t (tgt := 77) eX9_readStone_64 (by decide) ⟨by decide, by decide⟩ (by decide)) ?_
            refine q_blk (lv2 := [(0, vr n), (1, vi (st i)), (2, vi z2), (3, vi z5)]) (st2 := [vi 99, vi 1, vr n]) kX9_readStone_77 rfl ?_
            refine AQ.callVi (av := [vi 1, vi 99]) (st := []) (c_X9_number_g Mh7 hbh7 hl hx hg Th7 (lo := 1) (hi := 99) (by omega) (by omega) (by omega)) lk_RX9_197 (by decide) rfl rfl Mh7.ob ⟨_, rfl, rfl⟩ (Nat.le_of_ble_eq_true rfl) eX9_readStone_81 (fun z28 h30 e29 => ?_)
            rcases e29 with ⟨⟨pxh30, Kh30, K2h30, Th30, Mh30⟩ | ⟨pxh30, nh30, eh30, ah30, Kh30, Zh30, Mh30⟩, z0h30, z1h30, Vh30⟩
            · skip
              have Yh30' : am_f2 h h30 n := Yh7'.tr Vh30
              have hbh30 : h30.1 (n + 1) = some (100, 800, bf, am_N) := (Yh30'.2 (n + 1) (by omega) (by omega)).trans hb
              obtain ⟨m0h30, m1h30⟩ := id Mh30
              have NVh30 := rN_v Kh30
              refine q_blk (lv2 := [(0, vr n), (1, vi (st i)), (2, vi z2), (3, vi z5), (4, vi z28)]) (st2 := [vr n]) kX9_readStone_84 rfl ?_
              refine q_Vi (av := []) (st := []) (c_X9_isGood_g Mh30) lk_RX9_145 (by decide) rfl rfl Mh30.ob ⟨_, rfl, rfl⟩ (Nat.le_of_ble_eq_true rfl) eX9_readStone_87 (fun z31 e32 => ?_)
              subst e32
              refine AQ.of (AS.if_ne_t (tgt := 94) eX9_readStone_90 (by decide) ⟨by decide, by decide⟩ (by decide)) ?_
              refine q_blk (lv2 := [(0, vr n), (1, vi (st i)), (2, vi z2), (3, vi z5), (4, vi z28)]) (st2 := [vr n, vi 3, vi 6]) kX9_readStone_94 rfl ?_
              refine q_gr eX9_readStone_98 fl_RX9_17 (Or.inr ⟨_, rfl⟩) m0h30 rfl ?_
              refine q_blk (lv2 := [(0, vr n), (1, vi (st i)), (2, vi z2), (3, vi z5), (4, vi z28)]) (st2 := [vi 2, vr (n + 2), vi 3, vi 6]) kX9_readStone_101 rfl ?_
              refine q_ia eX9_readStone_102 m1h30 (by decide) (by omega) (by omega) (z := (E 2)) rfl ?_
              refine q_blk (lv2 := [(0, vr n), (1, vi (st i)), (2, vi z2), (3, vi z5), (4, vi z28), (5, vi (6 + (3 * (E 2))))]) (st2 := [vr n]) kX9_readStone_103 rfl ?_
              refine q_gr eX9_readStone_108 fl_RX9_17 (Or.inr ⟨_, rfl⟩) m0h30 rfl ?_
              refine q_blk (lv2 := [(0, vr n), (1, vi (st i)), (2, vi z2), (3, vi z5), (4, vi z28), (5, vi (6 + (3 * (E 2))))]) (st2 := [vi z2, vi (6 + (3 * (E 2))), vr (n + 2)]) kX9_readStone_111 rfl ?_
              refine q_is eX9_readStone_114 m1h30 (by omega) (by omega) (fun h33 e34 => ?_)
              have k35 := (am_ne e34 n (by omega)).trans m0h30
              have k36 := am_at e34
              refine q_blk (lv2 := [(0, vr n), (1, vi (st i)), (2, vi z2), (3, vi z5), (4, vi z28), (5, vi (6 + (3 * (E 2))))]) (st2 := [vr n]) kX9_readStone_115 rfl ?_
              refine q_gr eX9_readStone_116 fl_RX9_17 (Or.inr ⟨_, rfl⟩) k35 rfl ?_
              refine q_blk (lv2 := [(0, vr n), (1, vi (st i)), (2, vi z2), (3, vi z5), (4, vi z28), (5, vi (6 + (3 * (E 2))))]) (st2 := [vi z5, vi ((6 + (3 * (E 2))) + 1), vr (n + 2)]) kX9_readStone_119 rfl ?_
              refine q_is eX9_readStone_124 k36 (by omega) (by omega) (fun h37 e38 => ?_)
              have k39 := (am_ne e38 n (by omega)).trans k35
              have k40 := am_at e38
              refine q_blk (lv2 := [(0, vr n), (1, vi (st i)), (2, vi z2), (3, vi z5), (4, vi z28), (5, vi (6 + (3 * (E 2))))]) (st2 := [vr n]) kX9_readStone_125 rfl ?_
              refine q_gr eX9_readStone_126 fl_RX9_17 (Or.inr ⟨_, rfl⟩) k39 rfl ?_
              refine q_blk (lv2 := [(0, vr n), (1, vi (st i)), (2, vi z2), (3, vi z5), (4, vi z28), (5, vi (6 + (3 * (E 2))))]) (st2 := [vi z28, vi ((6 + (3 * (E 2))) + 2), vr (n + 2)]) kX9_readStone_129 rfl ?_
              refine q_is eX9_readStone_135 k40 (by omega) (by omega) (fun h41 e42 => ?_)
              have k43 := (am_ne e42 n (by omega)).trans k39
              have k44 := am_at e42
              refine q_blk (lv2 := [(0, vr n), (1, vi (st i)), (2, vi z2), (3, vi z5), (4, vi z28), (5, vi (6 + (3 * (E 2))))]) (st2 := [vr n]) kX9_readStone_136 rfl ?_
              refine q_gr eX9_readStone_137 fl_RX9_17 (Or.inr ⟨_, rfl⟩) k43 rfl ?_
              refine q_blk (lv2 := [(0, vr n), (1, vi (st i)), (2, vi z2), (3, vi z5), (4, vi z28), (5, vi (6 + (3 * (E 2))))]) (st2 := [vi 2, vr (n + 2), vi 2, vr (n + 2)]) kX9_readStone_140 rfl ?_
              refine q_ia eX9_readStone_142 k44 (by decide) (by omega) (by omega) (z := ((am_uI (am_uI (am_uI E (6 + (3 * (E 2))) z2) ((6 + (3 * (E 2))) + 1) z5) ((6 + (3 * (E 2))) + 2) z28) 2)) rfl ?_
              refine q_blk (lv2 := [(0, vr n), (1, vi (st i)), (2, vi z2), (3, vi z5), (4, vi z28), (5, vi (6 + (3 * (E 2))))]) (st2 := [vi (((am_uI (am_uI (am_uI E (6 + (3 * (E 2))) z2) ((6 + (3 * (E 2))) + 1) z5) ((6 + (3 * (E 2))) + 2) z28) 2) + 1), vi 2, vr (n + 2)]) kX9_readStone_143 rfl ?_
              refine q_is eX9_readStone_145 k44 (by omega) (by omega) (fun h45 e46 => ?_)
              have k47 := (am_ne e46 n (by omega)).trans k43
              have k48 := am_at e46
              exact q_rv rfl eX9_readStone_146 ⟨rfl, Or.inl ⟨_, gm_addS E z2 z5 z28, _, _, rS0_5 (by omega) (rP_3 (by rw [← e0]; exact Kh4) (by rw [← e1]; exact Kh7)) (fun q => ((gm_oc_s hD hs).mp q).elim e11 e20) Kh30, gm_addS_g hD (by omega) hs _ _ _, gm_addS_vd hD (by omega) ⟨by omega, by omega⟩ ⟨by omega, by omega⟩ ⟨by omega, by omega⟩, gm_addS_up ⟨by omega, by omega⟩ _ _ _, Th30, ⟨k47, by have q9 := k48; rw [gm_addS_m (by omega)] at q9; exact q9⟩⟩, (Yh30').tr ((am_fr.tr (am_fr.tr (am_fr.tr (am_fr.st e34 (by omega) (by omega)) (am_fr.st e38 (by omega) (by omega))) (am_fr.st e42 (by omega) (by omega))) (am_fr.st e46 (by omega) (by omega)) : am_fr _ _ (n + 2) (n + 3)).f2d)⟩
            · skip
              have Yh30' : am_f2 h h30 n := Yh7'.tr Vh30
              have hbh30 : h30.1 (n + 1) = some (100, 800, bf, am_N) := (Yh30'.2 (n + 1) (by omega) (by omega)).trans hb
              obtain ⟨m0h30, m1h30⟩ := id Mh30
              refine q_blk (lv2 := [(0, vr n), (1, vi (st i)), (2, vi z2), (3, vi z5), (4, vi z28)]) (st2 := [vr n]) kX9_readStone_84 rfl ?_
              refine q_Vi (av := []) (st := []) (c_X9_isGood_b Mh30 Zh30) lk_RX9_145 (by decide) rfl rfl Mh30.ob ⟨_, rfl, rfl⟩ (Nat.le_of_ble_eq_true rfl) eX9_readStone_87 (fun z49 e50 => ?_)
              subst e50
              refine AQ.of (AS.if_ne_f eX9_readStone_90 ⟨by decide, by decide⟩ (by decide) (by decide)) ?_
              exact q_rv rfl eX9_readStone_93 ⟨rfl, Or.inr ⟨_, _, _, _, _, rS0_4 (by omega) (rP_3 (by rw [← e0]; exact Kh4) (by rw [← e1]; exact Kh7)) (fun q => ((gm_oc_s hD hs).mp q).elim e11 e20) Kh30, Zh30, Mh30⟩, Yh30'⟩
      · skip
        have Yh7' : am_f2 h h7 n := Yh4'.tr Vh7
        have hbh7 : h7.1 (n + 1) = some (100, 800, bf, am_N) := (Yh7'.2 (n + 1) (by omega) (by omega)).trans hb
        obtain ⟨m0h7, m1h7⟩ := id Mh7
        refine q_blk (lv2 := [(0, vr n), (1, vi (st i)), (2, vi z2), (3, vi z5)]) (st2 := [vr n]) kX9_readStone_41 rfl ?_
        refine q_Vi (av := []) (st := []) (c_X9_isGood_b Mh7 Zh7) lk_RX9_145 (by decide) rfl rfl Mh7.ob ⟨_, rfl, rfl⟩ (Nat.le_of_ble_eq_true rfl) eX9_readStone_43 (fun z51 e52 => ?_)
        subst e52
        refine AQ.of (AS.if_eq_t (tgt := 77) eX9_readStone_46 (by decide) ⟨by decide, by decide⟩ (by decide)) ?_
        refine q_blk (lv2 := [(0, vr n), (1, vi (st i)), (2, vi z2), (3, vi z5)]) (st2 := [vi 99, vi 1, vr n]) kX9_readStone_77 rfl ?_
        refine q_Vi (av := [vi 1, vi 99]) (st := []) (c_X9_number_b Mh7 Zh7 (lo := 1) (hi := 99)) lk_RX9_197 (by decide) rfl rfl Mh7.ob ⟨_, rfl, rfl⟩ (Nat.le_of_ble_eq_true rfl) eX9_readStone_81 (fun z53 e54 => ?_)
        subst e54
        refine q_blk (lv2 := [(0, vr n), (1, vi (st i)), (2, vi z2), (3, vi z5), (4, vi 0)]) (st2 := [vr n]) kX9_readStone_84 rfl ?_
        refine q_Vi (av := []) (st := []) (c_X9_isGood_b Mh7 Zh7) lk_RX9_145 (by decide) rfl rfl Mh7.ob ⟨_, rfl, rfl⟩ (Nat.le_of_ble_eq_true rfl) eX9_readStone_87 (fun z55 e56 => ?_)
        subst e56
        refine AQ.of (AS.if_ne_f eX9_readStone_90 ⟨by decide, by decide⟩ (by decide) (by decide)) ?_
        exact q_rv rfl eX9_readStone_93 ⟨rfl, Or.inr ⟨_, _, _, _, _, rS0_1 (by omega) (rP_2 (by rw [← e0]; exact Kh4) (by rw [← e1]; exact Kh7)), Zh7, Mh7⟩, Yh7'⟩
    · skip
      have Yh4' : am_f2 h h4 n := Vh4
      have hbh4 : h4.1 (n + 1) = some (100, 800, bf, am_N) := (Yh4'.2 (n + 1) (by omega) (by omega)).trans hb
      obtain ⟨m0h4, m1h4⟩ := id Mh4
      refine q_blk (lv2 := [(0, vr n), (1, vi (st i)), (2, vi z2)]) (st2 := [vr n, vi 0, vr n]) kX9_readStone_29 rfl ?_
      refine q_gr eX9_readStone_33 fl_RX9_17 (Or.inr ⟨_, rfl⟩) m0h4 rfl ?_
      refine q_blk (lv2 := [(0, vr n), (1, vi (st i)), (2, vi z2)]) (st2 := [vi 1, vr (n + 2), vi 0, vr n]) kX9_readStone_36 rfl ?_
      refine q_ia eX9_readStone_37 m1h4 (by decide) (by omega) (by omega) (z := (E 1)) rfl ?_
      refine q_Vi (av := [vi 0, vi (E 1)]) (st := []) (c_X9_number_b Mh4 Zh4 (lo := 0) (hi := (E 1))) lk_RX9_197 (by decide) rfl rfl Mh4.ob ⟨_, rfl, rfl⟩ (Nat.le_of_ble_eq_true rfl) eX9_readStone_38 (fun z57 e58 => ?_)
      subst e58
      refine q_blk (lv2 := [(0, vr n), (1, vi (st i)), (2, vi z2), (3, vi 0)]) (st2 := [vr n]) kX9_readStone_41 rfl ?_
      refine q_Vi (av := []) (st := []) (c_X9_isGood_b Mh4 Zh4) lk_RX9_145 (by decide) rfl rfl Mh4.ob ⟨_, rfl, rfl⟩ (Nat.le_of_ble_eq_true rfl) eX9_readStone_43 (fun z59 e60 => ?_)
      subst e60
      refine AQ.of (AS.if_eq_t (tgt := 77) eX9_readStone_46 (by decide) ⟨by decide, by decide⟩ (by decide)) ?_
      refine q_blk (lv2 := [(0, vr n), (1, vi (st i)), (2, vi z2), (3, vi 0)]) (st2 := [vi 99, vi 1, vr n]) kX9_readStone_77 rfl ?_
      refine q_Vi (av := [vi 1, vi 99]) (st := []) (c_X9_number_b Mh4 Zh4 (lo := 1) (hi := 99)) lk_RX9_197 (by decide) rfl rfl Mh4.ob ⟨_, rfl, rfl⟩ (Nat.le_of_ble_eq_true rfl) eX9_readStone_81 (fun z61 e62 => ?_)
      subst e62
      refine q_blk (lv2 := [(0, vr n), (1, vi (st i)), (2, vi z2), (3, vi 0), (4, vi 0)]) (st2 := [vr n]) kX9_readStone_84 rfl ?_
      refine q_Vi (av := []) (st := []) (c_X9_isGood_b Mh4 Zh4) lk_RX9_145 (by decide) rfl rfl Mh4.ob ⟨_, rfl, rfl⟩ (Nat.le_of_ble_eq_true rfl) eX9_readStone_87 (fun z63 e64 => ?_)
      subst e64
      refine AQ.of (AS.if_ne_f eX9_readStone_90 ⟨by decide, by decide⟩ (by decide) (by decide)) ?_
      exact q_rv rfl eX9_readStone_93 ⟨rfl, Or.inr ⟨_, _, _, _, _, rS0_1 (by omega) (rP_1 (by rw [← e0]; exact Kh4)), Zh4, Mh4⟩, Yh4'⟩
  · skip
    refine q_blk (lv2 := [(0, vr n), (1, vi (st i))]) (st2 := [vi (st i), vi (-5), vr n]) kX9_readStone_11 rfl ?_
    refine AQ.callVv (av := [vi (-5), vi (st i)]) (st := []) (c_X9_report_g hm (k := (-5)) (a := (st i))) lk_RX9_162 (by decide) rfl rfl hm.ob ⟨_, rfl, rfl⟩ (Nat.le_of_ble_eq_true rfl) eX9_readStone_15 (fun h67 e66 => ?_)
    obtain ⟨Mh67, Fh67⟩ := e66
    have Vh67 : am_f2 h h67 n := Fh67.f2
    have hbh67 : h67.1 (n + 1) = some (100, 800, bf, am_N) := (Vh67.2 (n + 1) (by omega) (by omega)).trans hb
    obtain ⟨m0h67, m1h67⟩ := id Mh67
    have Yh67 : ((-5) : Int) ≠ 0 ∧ am_r (-5) := ⟨by decide, by decide, by decide⟩
    refine q_blk (lv2 := [(0, vr n), (1, vi (st i))]) (st2 := [vr n, vi 0, vr n]) kX9_readStone_18 rfl ?_
    refine q_gr eX9_readStone_21 fl_RX9_17 (Or.inr ⟨_, rfl⟩) m0h67 rfl ?_
    refine q_blk (lv2 := [(0, vr n), (1, vi (st i))]) (st2 := [vi 0, vr (n + 2), vi 0, vr n]) kX9_readStone_24 rfl ?_
    refine q_ia eX9_readStone_25 m1h67 (by decide) (by omega) (by omega) (z := (E 0)) rfl ?_
    refine q_Vi (av := [vi 0, vi (E 0)]) (st := []) (c_X9_number_b Mh67 Yh67 (lo := 0) (hi := (E 0))) lk_RX9_197 (by decide) rfl rfl Mh67.ob ⟨_, rfl, rfl⟩ (Nat.le_of_ble_eq_true rfl) eX9_readStone_26 (fun z68 e69 => ?_)
    subst e69
    refine q_blk (lv2 := [(0, vr n), (1, vi (st i)), (2, vi 0)]) (st2 := [vr n, vi 0, vr n]) kX9_readStone_29 rfl ?_
    refine q_gr eX9_readStone_33 fl_RX9_17 (Or.inr ⟨_, rfl⟩) m0h67 rfl ?_
    refine q_blk (lv2 := [(0, vr n), (1, vi (st i)), (2, vi 0)]) (st2 := [vi 1, vr (n + 2), vi 0, vr n]) kX9_readStone_36 rfl ?_
    refine q_ia eX9_readStone_37 m1h67 (by decide) (by omega) (by omega) (z := (E 1)) rfl ?_
    refine q_Vi (av := [vi 0, vi (E 1)]) (st := []) (c_X9_number_b Mh67 Yh67 (lo := 0) (hi := (E 1))) lk_RX9_197 (by decide) rfl rfl Mh67.ob ⟨_, rfl, rfl⟩ (Nat.le_of_ble_eq_true rfl) eX9_readStone_38 (fun z70 e71 => ?_)
    subst e71
    refine q_blk (lv2 := [(0, vr n), (1, vi (st i)), (2, vi 0), (3, vi 0)]) (st2 := [vr n]) kX9_readStone_41 rfl ?_
    refine q_Vi (av := []) (st := []) (c_X9_isGood_b Mh67 Yh67) lk_RX9_145 (by decide) rfl rfl Mh67.ob ⟨_, rfl, rfl⟩ (Nat.le_of_ble_eq_true rfl) eX9_readStone_43 (fun z72 e73 => ?_)
    subst e73
    refine AQ.of (AS.if_eq_t (tgt := 77) eX9_readStone_46 (by decide) ⟨by decide, by decide⟩ (by decide)) ?_
    refine q_blk (lv2 := [(0, vr n), (1, vi (st i)), (2, vi 0), (3, vi 0)]) (st2 := [vi 99, vi 1, vr n]) kX9_readStone_77 rfl ?_
    refine q_Vi (av := [vi 1, vi 99]) (st := []) (c_X9_number_b Mh67 Yh67 (lo := 1) (hi := 99)) lk_RX9_197 (by decide) rfl rfl Mh67.ob ⟨_, rfl, rfl⟩ (Nat.le_of_ble_eq_true rfl) eX9_readStone_81 (fun z74 e75 => ?_)
    subst e75
    refine q_blk (lv2 := [(0, vr n), (1, vi (st i)), (2, vi 0), (3, vi 0), (4, vi 0)]) (st2 := [vr n]) kX9_readStone_84 rfl ?_
    refine q_Vi (av := []) (st := []) (c_X9_isGood_b Mh67 Yh67) lk_RX9_145 (by decide) rfl rfl Mh67.ob ⟨_, rfl, rfl⟩ (Nat.le_of_ble_eq_true rfl) eX9_readStone_87 (fun z76 e77 => ?_)
    subst e77
    refine AQ.of (AS.if_ne_f eX9_readStone_90 ⟨by decide, by decide⟩ (by decide) (by decide)) ?_
    exact q_rv rfl eX9_readStone_93 ⟨rfl, Or.inr ⟨_, _, _, _, _, rS0_0 (by omega), Yh67, Mh67⟩, Vh67⟩
