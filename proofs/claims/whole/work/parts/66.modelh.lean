/-! CornerClaimsModel: stones and polygons of its text. -/
section RDS
variable {kd st vl : Int → Int} {w hh he x y v : Int} {e : Int × Int} {D : Int → Int}
theorem rN_v {lo hi z : Int} (h : rN kd st vl lo hi he = .inr z) : kd he = 2 ∧ lo ≤ z ∧ z ≤ hi := by
  unfold rN at h
  by_cases c : kd he = 2
  · rw [if_pos c] at h
    by_cases c2 : lo ≤ vl he ∧ vl he ≤ hi
    · rw [if_pos c2] at h; cases h; exact ⟨c, c2⟩
    · rw [if_neg c2] at h; cases h
  · rw [if_neg c] at h; cases h
theorem rP_1 (h : rN kd st vl 0 w he = .inl e) : rP kd st vl w hh he = .inl e := rB_l h _
theorem rP_2 (h1 : rN kd st vl 0 w he = .inr x) (h2 : rN kd st vl 0 hh (he + 1) = .inl e) : rP kd st vl w hh he = .inl e := (rB_r h1 _).trans (rB_l h2 _)
theorem rP_3 (h1 : rN kd st vl 0 w he = .inr x) (h2 : rN kd st vl 0 hh (he + 1) = .inr y) : rP kd st vl w hh he = .inr (x, y) := (rB_r h1 _).trans (rB_r h2 _)
theorem rS0_0 (h : ¬ D 2 < 20) : rS0 kd st vl D he = .inl (-5, st he) := if_neg h
theorem rS0_1 (h : D 2 < 20) (hP : rP kd st vl (D 0) (D 1) (he + 1) = .inl e) : rS0 kd st vl D he = .inl e := (if_pos h).trans (rB_l hP _)
theorem rS0_3 (h : D 2 < 20) (hP : rP kd st vl (D 0) (D 1) (he + 1) = .inr (x, y)) (ho : gm_oc D x y) : rS0 kd st vl D he = .inl (-4, st (he + 1 + 1)) := (if_pos h).trans ((rB_r hP _).trans (gm_ite_t ho))
theorem rS0_4 (h : D 2 < 20) (hP : rP kd st vl (D 0) (D 1) (he + 1) = .inr (x, y)) (ho : ¬ gm_oc D x y) (h3 : rN kd st vl 1 99 (he + 1 + 1 + 1) = .inl e) : rS0 kd st vl D he = .inl e := (if_pos h).trans ((rB_r hP _).trans ((gm_ite_f ho).trans (rB_l h3 _)))
theorem rS0_5 (h : D 2 < 20) (hP : rP kd st vl (D 0) (D 1) (he + 1) = .inr (x, y)) (ho : ¬ gm_oc D x y) (h3 : rN kd st vl 1 99 (he + 1 + 1 + 1) = .inr v) : rS0 kd st vl D he = .inr (gm_addS D x y v) := (if_pos h).trans ((rB_r hP _).trans ((gm_ite_f ho).trans (rB_r h3 _)))
end RDS
theorem gm_addS_m {E : Int → Int} (h : 0 ≤ E 2) (x y v : Int) : am_uI (am_uI (am_uI (am_uI E (6 + 3 * E 2) x) (6 + 3 * E 2 + 1) y) (6 + 3 * E 2 + 2) v) 2 (am_uI (am_uI (am_uI E (6 + 3 * E 2) x) (6 + 3 * E 2 + 1) y) (6 + 3 * E 2 + 2) v 2 + 1) = gm_addS E x y v := by
  rw [am_uI_ne (i := 6 + 3 * E 2 + 2) (j := 2) _ _ (by omega), am_uI_ne (i := 6 + 3 * E 2 + 1) (j := 2) _ _ (by omega), am_uI_ne (i := 6 + 3 * E 2) (j := 2) _ _ (by omega), show 6 + 3 * E 2 + 1 = 7 + 3 * E 2 by omega, show 6 + 3 * E 2 + 2 = 8 + 3 * E 2 by omega]
  rfl
theorem gm_addS_up {E : Int → Int} (h : 0 ≤ E 2 ∧ E 2 < 20) (x y v : Int) : gm_up E (gm_addS E x y v) := ⟨gm_addS_o (by omega) (by omega), gm_addS_o (by omega) (by omega), fun i hi => gm_addS_o (by omega) (by omega)⟩

set_option maxHeartbeats 1000000 in
theorem c_X9_once_g {w : am_w} {h : AH} {n : Nat} {th bl tl ps ea eo ud g0 g1 g2 g3 ns ne se : Int} {E : Int → Int} (hm : MM h n th bl tl ps 0 ea eo ud g0 g1 g2 g3 ns ne se E) (hse : se = 0 ∨ se = 1) {a : Int}  : AE w m_X9_once 2 [vr n, vi 0, vi a] h (am_unit (fun h1 => ((se = 0 ∧ MM h1 n th bl tl ps 0 ea eo ud g0 g1 g2 g3 ns ne 1 E) ∨ (se = 1 ∧ MM h1 n th bl tl ps (-2) a eo ud g0 g1 g2 g3 ns ne 1 E)) ∧ am_f2 h h1 n)) := by
  refine AE.of wf_X9_once (Nat.le_of_ble_eq_true rfl) (am_ok_v) ?_
  obtain ⟨m0, m1⟩ := id hm
  have hb : True := trivial
  refine q_blk (lv2 := [(0, vr n), (1, vi 0), (2, vi a)]) (st2 := [vr n]) kX9_once_0 rfl ?_
  refine q_gi eX9_once_1 fl_RX9_209 (Or.inl rfl) m0 (z := se) rfl ?_
  refine q_blk (lv2 := [(0, vr n), (1, vi 0), (2, vi a)]) (st2 := [vi 0, vi se]) kX9_once_4 rfl ?_
  refine AQ.of (AS.ishr (a := se) (b := 0) eX9_once_5 ⟨by omega, by omega⟩ (by decide) (by decide)) ?_
  rw [show se / (((2 ^ Int.toNat 0 : Nat)) : Int) = se from Int.ediv_one _]
  refine q_blk (lv2 := [(0, vr n), (1, vi 0), (2, vi a)]) (st2 := [vi 1, vi se]) kX9_once_6 rfl ?_
  refine AQ.of (AS.iand1 eX9_once_7) ?_
  refine q_blk (lv2 := [(0, vr n), (1, vi 0), (2, vi a)]) (st2 := [vi 1, vi (se % 2)]) kX9_once_8 rfl ?_
  refine AQ.ic_ne (tgt := 19) eX9_once_9 (by decide) (by first | assumption | exact ⟨by omega, by omega⟩) ⟨by decide, by decide⟩ (fun br1 => ?_) (fun br1 => ?_)
  · skip
    refine q_blk (lv2 := [(0, vr n), (1, vi 0), (2, vi a)]) (st2 := [vr n, vr n]) kX9_once_19 rfl ?_
    refine q_gi eX9_once_21 fl_RX9_209 (Or.inl rfl) m0 (z := se) rfl ?_
    refine q_blk (lv2 := [(0, vr n), (1, vi 0), (2, vi a)]) (st2 := [vi 0, vi 1, vi se, vr n]) kX9_once_24 rfl ?_
    refine AQ.of (AS.ishl0 eX9_once_26) ?_
    refine AQ.of (AS.ior1 (a := se) eX9_once_27 (by omega)) ?_
    refine q_pi eX9_once_28 fl_RX9_209 (fun q hq => by cases hq; exact Or.inl rfl) (Or.inl rfl) m0 (Nat.le_of_ble_eq_true rfl) (l2 := [th, 0, bl, tl, ps, 0, ea, eo, 0, 0, 0, ud, g0, g1, g2, g3, ns, ne, 1, 0]) rfl (fun h2 e3 => ?_)
    have k4 := am_at e3
    have k5 := (am_ne e3 (n + 2) (by omega)).trans m1
    exact q_rv rfl eX9_once_31 ⟨rfl, Or.inl ⟨by omega, ⟨k4, k5⟩⟩, (am_f2.rf).tr ((am_fr.st e3 (by omega) (by omega) : am_fr _ _ n (n + 1)).f2)⟩
  · skip
    refine q_blk (lv2 := [(0, vr n), (1, vi 0), (2, vi a)]) (st2 := [vi a, vi (-2), vr n]) kX9_once_12 rfl ?_
    refine AQ.callVv (av := [vi (-2), vi a]) (st := []) (c_X9_report_g hm (k := (-2)) (a := a)) lk_RX9_162 (by decide) rfl rfl hm.ob ⟨_, rfl, rfl⟩ (Nat.le_of_ble_eq_true rfl) eX9_once_16 (fun h8 e7 => ?_)
    obtain ⟨Mh8, Fh8⟩ := e7
    obtain ⟨m0h8, m1h8⟩ := id Mh8
    refine q_blk (lv2 := [(0, vr n), (1, vi 0), (2, vi a)]) (st2 := [vr n, vr n]) kX9_once_19 rfl ?_
    refine q_gi eX9_once_21 fl_RX9_209 (Or.inl rfl) m0h8 (z := se) rfl ?_
    refine q_blk (lv2 := [(0, vr n), (1, vi 0), (2, vi a)]) (st2 := [vi 0, vi 1, vi se, vr n]) kX9_once_24 rfl ?_
    refine AQ.of (AS.ishl0 eX9_once_26) ?_
    refine AQ.of (AS.ior1 (a := se) eX9_once_27 (by omega)) ?_
    refine q_pi eX9_once_28 fl_RX9_209 (fun q hq => by cases hq; exact Or.inl rfl) (Or.inl rfl) m0h8 (Nat.le_of_ble_eq_true rfl) (l2 := [th, 0, bl, tl, ps, (-2), a, eo, 0, 0, 0, ud, g0, g1, g2, g3, ns, ne, 1, 0]) rfl (fun h9 e10 => ?_)
    have k11 := am_at e10
    have k12 := (am_ne e10 (n + 2) (by omega)).trans m1h8
    exact q_rv rfl eX9_once_31 ⟨rfl, Or.inr ⟨by omega, ⟨k11, k12⟩⟩, (Fh8.f2).tr ((am_fr.st e10 (by omega) (by omega) : am_fr _ _ n (n + 1)).f2)⟩

set_option maxHeartbeats 4000000 in
theorem c_X9_readStone {w : am_w} {h : AH} {n : Nat} {th bl tl ps ea eo ud g0 g1 g2 g3 ns ne se : Int} {E : Int → Int} (hm : MM h n th bl tl ps 0 ea eo ud g0 g1 g2 g3 ns ne se E) {bf : Int → Int} (hb : h.1 (n + 1) = some (100, 800, bf, am_N)) (hl : 0 ≤ tl ∧ tl ≤ 800) {tx kd st vl : Int → Int} {N : Int} (hx : BX bf tx tl) (hg : TG tx kd st vl tl N) {i : Int} (i0 : 0 ≤ i) (hp : TP tx st N ps (i + 1)) {D : Int → Int} (hD : VD D) (hs : gm_same D E)  : AE w m_X9_readStone 5 [vr n, vi (st i)] h (am_unit (fun h1 => ((∃ D' E' px ns', rS0 kd st vl D i = .inr D' ∧ gm_same D' E' ∧ VD D' ∧ gm_up E E' ∧ TP tx st N px (i + 1 + 1 + 1 + 1) ∧ MM h1 n th bl tl px 0 ea eo ud g0 g1 g2 g3 ns' ne se E') ∨ (∃ e a px ns' E', rS0 kd st vl D i = .inl (e, a) ∧ (e ≠ 0 ∧ am_r e) ∧ MM h1 n th bl tl px e a eo ud g0 g1 g2 g3 ns' ne se E')) ∧ am_f2 h h1 n)) := by
  refine AE.of wf_X9_readStone (Nat.le_of_ble_eq_true rfl) (am_ok_v) ?_
  obtain ⟨m0, m1⟩ := id hm
  have hE := hD.same hs
  obtain ⟨e0, e1, e2, e3, e4, e5⟩ := id hs
  have d0 := hD.1
  have d1 := hD.2.1
  have d2 := hD.2.2.1
  have d3 := hD.2.2.2.1
  refine q_blk (lv2 := [(0, vr n), (1, vi (st i))]) (st2 := [vr n]) kX9_readStone_0 rfl ?_
  refine q_gr eX9_readStone_1 fl_RX9_17 (Or.inr ⟨_, rfl⟩) m0 rfl ?_
  refine q_blk (lv2 := [(0, vr n), (1, vi (st i))]) (st2 := [vi 2, vr (n + 2)]) kX9_readStone_4 rfl ?_
  refine q_ia eX9_readStone_5 m1 (by decide) (by omega) (by omega) (z := (E 2)) rfl ?_
  refine q_blk (lv2 := [(0, vr n), (1, vi (st i))]) (st2 := [vi 20, vi (E 2)]) kX9_readStone_6 rfl ?_
  refine AQ.ic_ne (tgt := 18) eX9_readStone_8 (by decide) (by first | assumption | exact ⟨by omega, by omega⟩) ⟨by decide, by decide⟩ (fun br1 => ?_) (fun br1 => ?_)
  · skip
    refine q_blk (lv2 := [(0, vr n), (1, vi (st i))]) (st2 := [vr n, vi 0, vr n]) kX9_readStone_18 rfl ?_
    refine q_gr eX9_readStone_21 fl_RX9_17 (Or.inr ⟨_, rfl⟩) m0 rfl ?_
    refine q_blk (lv2 := [(0, vr n), (1, vi (st i))]) (st2 := [vi 0, vr (n + 2), vi 0, vr n]) kX9_readStone_24 rfl ?_
    refine q_ia eX9_readStone_25 m1 (by decide) (by omega) (by omega) (z := (E 0)) rfl ?_
    refine AQ.callVi (av := [vi 0, vi (E 0)]) (st := []) (c_X9_number_g hm hb hl hx hg hp (lo := 0) (hi := (E 0)) (by omega) (by omega) (by omega)) lk_RX9_197 (by decide) rfl rfl hm.ob ⟨_, rfl, rfl⟩ (Nat.le_of_ble_eq_true rfl) eX9_readStone_26 (fun z2 h4 e3 => ?_)
    rcases e3 with ⟨⟨pxh4, Kh4, K2h4, Th4, Mh4⟩ | ⟨pxh4, nh4, eh4, ah4, Kh4, Zh4, Mh4⟩, z0h4, z1h4, Vh4⟩
    · skip
      have Yh4' : am_f2 h h4 n := Vh4
      have hbh4 : h4.1 (n + 1) = some (100, 800, bf, am_N) := (Yh4'.2 (n + 1) (by omega) (by omega)).trans hb
      obtain ⟨m0h4, m1h4⟩ := id Mh4
      have NVh4 := rN_v Kh4
      refine q_blk (lv2 := [(0, vr n), (1, vi (st i)), (2, vi z2)]) (st2 := [vr n, vi 0, vr n]) kX9_readStone_29 rfl ?_
      refine q_gr eX9_readStone_33 fl_RX9_17 (Or.inr ⟨_, rfl⟩) m0h4 rfl ?_
      refine q_blk (lv2 := [(0, vr n), (1, vi (st i)), (2, vi z2)]) (st2 := [vi 1, vr (n + 2), vi 0, vr n]) kX9_readStone_36 rfl ?_
      refine q_ia eX9_readStone_37 m1h4 (by decide) (by omega) (by omega) (z := (E 1)) rfl ?_
      refine AQ.callVi (av := [vi 0, vi (E 1)]) (st := []) (c_X9_number_g Mh4 hbh4 hl hx hg Th4 (lo := 0) (hi := (E 1)) (by omega) (by omega) (by omega)) lk_RX9_197 (by decide) rfl rfl Mh4.ob ⟨_, rfl, rfl⟩ (Nat.le_of_ble_eq_true rfl) eX9_readStone_38 (fun z5 h7 e6 => ?_)
      rcases e6 with ⟨⟨pxh7, Kh7, K2h7, Th7, Mh7⟩ | ⟨pxh7, nh7, eh7, ah7, Kh7, Zh7, Mh7⟩, z0h7, z1h7, Vh7⟩
      · skip
        have Yh7' : am_f2 h h7 n := Yh4'.tr Vh7
        have hbh7 : h7.1 (n + 1) = some (100, 800, bf, am_N) := (Yh7'.2 (n + 1) (by omega) (by omega)).trans hb
        obtain ⟨m0h7, m1h7⟩ := id Mh7
        have NVh7 := rN_v Kh7
        refine q_blk (lv2 := [(0, vr n), (1, vi (st i)), (2, vi z2), (3, vi z5)]) (st2 := [vr n]) kX9_readStone_41 rfl ?_
        refine q_Vi (av := []) (st := []) (c_X9_isGood_g Mh7) lk_RX9_145 (by decide) rfl rfl Mh7.ob ⟨_, rfl, rfl⟩ (Nat.le_of_ble_eq_true rfl) eX9_readStone_43 (fun z8 e9 => ?_)
        subst e9
        refine AQ.of (AS.if_eq_f eX9_readStone_46 ⟨by decide, by decide⟩ (by decide) (by decide)) ?_
        refine q_blk (lv2 := [(0, vr n), (1, vi (st i)), (2, vi z2), (3, vi z5)]) (st2 := [vi z5, vi z2, vr n]) kX9_readStone_49 rfl ?_
        refine q_Vi (av := [vi z2, vi z5]) (st := []) (c_X9_isTaken Mh7 hE (x := z2) (y := z5) ⟨by omega, by omega⟩ ⟨by omega, by omega⟩) lk_RX9_110 (by decide) rfl rfl Mh7.ob ⟨_, rfl, rfl⟩ (Nat.le_of_ble_eq_true rfl) eX9_readStone_52 (fun z10 e11 => ?_)
        rcases e11 with ⟨rfl, e11⟩ | ⟨rfl, e11⟩
        · skip
          refine AQ.of (AS.if_ne_t (tgt := 67) eX9_readStone_55 (by decide) ⟨by decide, by decide⟩ (by decide)) ?_
          refine q_blk (lv2 := [(0, vr n), (1, vi (st i)), (2, vi z2), (3, vi z5)]) (st2 := [vr n, vi (-4), vr n]) kX9_readStone_67 rfl ?_
          refine q_gi eX9_readStone_71 fl_RX9_169 (Or.inl rfl) m0h7 (z := (st ((i + 1) + 1))) rfl ?_
          refine AQ.callVv (av := [vi (-4), vi (st ((i + 1) + 1))]) (st := []) (c_X9_report_g Mh7 (k := (-4)) (a := (st ((i + 1) + 1)))) lk_RX9_162 (by decide) rfl rfl Mh7.ob ⟨_, rfl, rfl⟩ (Nat.le_of_ble_eq_true rfl) eX9_readStone_74 (fun h14 e13 => ?_)
          obtain ⟨Mh14, Fh14⟩ := e13
          have Vh14 : am_f2 h h14 n := Yh7'.tr (Fh14.f2)
          have hbh14 : h14.1 (n + 1) = some (100, 800, bf, am_N) := (Vh14.2 (n + 1) (by omega) (by omega)).trans hb
          obtain ⟨m0h14, m1h14⟩ := id Mh14
          have Yh14 : ((-4) : Int) ≠ 0 ∧ am_r (-4) := ⟨by decide, by decide, by decide⟩
          refine q_blk (lv2 := [(0, vr n), (1, vi (st i)), (2, vi z2), (3, vi z5)]) (st2 := [vi 99, vi 1, vr n]) kX9_readStone_77 rfl ?_
          refine q_Vi (av := [vi 1, vi 99]) (st := []) (c_X9_number_b Mh14 Yh14 (lo := 1) (hi := 99)) lk_RX9_197 (by decide) rfl rfl Mh14.ob ⟨_, rfl, rfl⟩ (Nat.le_of_ble_eq_true rfl) eX9_readStone_81 (fun z15 e16 => ?_)
          subst e16
          refine q_blk (lv2 := [(0, vr n), (1, vi (st i)), (2, vi z2), (3, vi z5), (4, vi 0)]) (st2 := [vr n]) kX9_readStone_84 rfl ?_
          refine q_Vi (av := []) (st := []) (c_X9_isGood_b Mh14 Yh14) lk_RX9_145 (by decide) rfl rfl Mh14.ob ⟨_, rfl, rfl⟩ (Nat.le_of_ble_eq_true rfl) eX9_readStone_87 (fun z17 e18 => ?_)
          subst e18
          refine AQ.of (AS.if_ne_f eX9_readStone_90 ⟨by decide, by decide⟩ (by decide) (by decide)) ?_
          exact q_rv rfl eX9_readStone_93 ⟨rfl, Or.inr ⟨_, _, _, _, _, rS0_3 (by omega) (rP_3 (by rw [← e0]; exact Kh4) (by rw [← e1]; exact Kh7)) ((gm_oc_s hD hs).mpr (Or.inl e11)), Yh14, Mh14⟩, Vh14⟩
        · skip
          refine AQ.of (AS.if_ne_f eX9_readStone_55 ⟨by decide, by decide⟩ (by decide) (by decide)) ?_
          refine q_blk (lv2 := [(0, vr n), (1, vi (st i)), (2, vi z2), (3, vi z5)]) (st2 := [vi z5, vi z2, vr n]) kX9_readStone_58 rfl ?_
          refine q_Vi (av := [vi z2, vi z5]) (st := []) (c_X9_isOnSide Mh7 hE (x := z2) (y := z5) ⟨by omega, by omega⟩ ⟨by omega, by omega⟩) lk_RX9_212 (by decide) rfl rfl Mh7.ob ⟨_, rfl, rfl⟩ (Nat.le_of_ble_eq_true rfl) eX9_readStone_61 (fun z19 e20 => ?_)
          rcases e20 with ⟨rfl, e20⟩ | ⟨rfl, e20⟩
          · skip
            refine AQ.of (AS.if_eq_f eX9_readStone_64 ⟨by decide, by decide⟩ (by decide) (by decide)) ?_
            refine q_blk (lv2 := [(0, vr n), (1, vi (st i)), (2, vi z2), (3, vi z5)]) (st2 := [vr n, vi (-4), vr n]) kX9_readStone_67 rfl ?_
            refine q_gi eX9_readStone_71 fl_RX9_169 (Or.inl rfl) m0h7 (z := (st ((i + 1) + 1))) rfl ?_
            refine AQ.callVv (av := [vi (-4), vi (st ((i + 1) + 1))]) (st := []) (c_X9_report_g Mh7 (k := (-4)) (a := (st ((i + 1) + 1)))) lk_RX9_162 (by decide) rfl rfl Mh7.ob ⟨_, rfl, rfl⟩ (Nat.le_of_ble_eq_true rfl) eX9_readStone_74 (fun h23 e22 => ?_)
            obtain ⟨Mh23, Fh23⟩ := e22
            have Vh23 : am_f2 h h23 n := Yh7'.tr (Fh23.f2)
            have hbh23 : h23.1 (n + 1) = some (100, 800, bf, am_N) := (Vh23.2 (n + 1) (by omega) (by omega)).trans hb
            obtain ⟨m0h23, m1h23⟩ := id Mh23
            have Yh23 : ((-4) : Int) ≠ 0 ∧ am_r (-4) := ⟨by decide, by decide, by decide⟩
            refine q_blk (lv2 := [(0, vr n), (1, vi (st i)), (2, vi z2), (3, vi z5)]) (st2 := [vi 99, vi 1, vr n]) kX9_readStone_77 rfl ?_
            refine q_Vi (av := [vi 1, vi 99]) (st := []) (c_X9_number_b Mh23 Yh23 (lo := 1) (hi := 99)) lk_RX9_197 (by decide) rfl rfl Mh23.ob ⟨_, rfl, rfl⟩ (Nat.le_of_ble_eq_true rfl) eX9_readStone_81 (fun z24 e25 => ?_)
            subst e25
            refine q_blk (lv2 := [(0, vr n), (1, vi (st i)), (2, vi z2), (3, vi z5), (4, vi 0)]) (st2 := [vr n]) kX9_readStone_84 rfl ?_
            refine q_Vi (av := []) (st := []) (c_X9_isGood_b Mh23 Yh23) lk_RX9_145 (by decide) rfl rfl Mh23.ob ⟨_, rfl, rfl⟩ (Nat.le_of_ble_eq_true rfl) eX9_readStone_87 (fun z26 e27 => ?_)
            subst e27
            refine AQ.of (AS.if_ne_f eX9_readStone_90 ⟨by decide, by decide⟩ (by decide) (by decide)) ?_
            exact q_rv rfl eX9_readStone_93 ⟨rfl, Or.inr ⟨_, _, _, _, _, rS0_3 (by omega) (rP_3 (by rw [← e0]; exact Kh4) (by rw [← e1]; exact Kh7)) ((gm_oc_s hD hs).mpr (Or.inr e20)), Yh23, Mh23⟩, Vh23⟩
          · skip
            refine AQ.of (AS.if_eq_t (tgt := 77) eX9_readStone_64 (by decide) ⟨by decide, by decide⟩ (by decide)) ?_
            refine q_blk (lv2 := [(0, vr n), (1, vi (st i)), (2, vi z2), (3, vi z5)]) (st2 := [vi 99, vi 1, vr n]) kX9_readStone_77 rfl ?_
            refine AQ.callVi (av := [vi 1, vi 99]) (st := []) (c_X9_number_g Mh7 hbh7 hl hx hg Th7 (lo := 1) (hi := 99) (by omega) (by omega) (by omega)) lk_RX9_197 (by decide) rfl rfl Mh7.ob ⟨_, rfl, rfl⟩ (Nat.le_of_ble_eq_true rfl) eX9_readStone_81 (fun z28 h30 e29 => ?_)
            rcases e29 with ⟨⟨pxh30, Kh30, K2h30, Th30, Mh30⟩ | ⟨pxh30, nh30, eh30, ah30, Kh30, Zh30, Mh30⟩, z0h30, z1h30, Vh30⟩
            · skip
              have Yh30' : am_f2 h h30 n := Yh7'.tr Vh30
              have hbh30 : h30.1 (n + 1) = some (100, 800, bf, am_N) := (Yh30'.2 (n + 1) (by omega) (by omega)).trans hb
              obtain ⟨m0h30, m1h30⟩ := id Mh30
              have NVh30 := rN_v Kh30
              refine q_blk (lv2 := [(0, vr n), (1, vi (st i)), (2, vi z2), (3, vi z5), (4, vi z28)]) (st2 := [vr n]) kX9_readStone_84 rfl ?_
              refine q_Vi (av := []) (st := []) (c_X9_isGood_g Mh30) lk_RX9_145 (by decide) rfl rfl Mh30.ob ⟨_, rfl, rfl⟩ (Nat.le_of_ble_eq_true rfl) eX9_readStone_87 (fun z31 e32 => ?_)
              subst e32
              refine AQ.of (AS.if_ne_t (tgt := 94) eX9_readStone_90 (by decide) ⟨by decide, by decide⟩ (by decide)) ?_
              refine q_blk (lv2 := [(0, vr n), (1, vi (st i)), (2, vi z2), (3, vi z5), (4, vi z28)]) (st2 := [vr n, vi 3, vi 6]) kX9_readStone_94 rfl ?_
              refine q_gr eX9_readStone_98 fl_RX9_17 (Or.inr ⟨_, rfl⟩) m0h30 rfl ?_
              refine q_blk (lv2 := [(0, vr n), (1, vi (st i)), (2, vi z2), (3, vi z5), (4, vi z28)]) (st2 := [vi 2, vr (n + 2), vi 3, vi 6]) kX9_readStone_101 rfl ?_
              refine q_ia eX9_readStone_102 m1h30 (by decide) (by omega) (by omega) (z := (E 2)) rfl ?_
              refine q_blk (lv2 := [(0, vr n), (1, vi (st i)), (2, vi z2), (3, vi z5), (4, vi z28), (5, vi (6 + (3 * (E 2))))]) (st2 := [vr n]) kX9_readStone_103 rfl ?_
              refine q_gr eX9_readStone_108 fl_RX9_17 (Or.inr ⟨_, rfl⟩) m0h30 rfl ?_
              refine q_blk (lv2 := [(0, vr n), (1, vi (st i)), (2, vi z2), (3, vi z5), (4, vi z28), (5, vi (6 + (3 * (E 2))))]) (st2 := [vi z2, vi (6 + (3 * (E 2))), vr (n + 2)]) kX9_readStone_111 rfl ?_
              refine q_is eX9_readStone_114 m1h30 (by omega) (by omega) (fun h33 e34 => ?_)
              have k35 := (am_ne e34 n (by omega)).trans m0h30
              have k36 := am_at e34
              refine q_blk (lv2 := [(0, vr n), (1, vi (st i)), (2, vi z2), (3, vi z5), (4, vi z28), (5, vi (6 + (3 * (E 2))))]) (st2 := [vr n]) kX9_readStone_115 rfl ?_
              refine q_gr eX9_readStone_116 fl_RX9_17 (Or.inr ⟨_, rfl⟩) k35 rfl ?_
              refine q_blk (lv2 := [(0, vr n), (1, vi (st i)), (2, vi z2), (3, vi z5), (4, vi z28), (5, vi (6 + (3 * (E 2))))]) (st2 := [vi z5, vi ((6 + (3 * (E 2))) + 1), vr (n + 2)]) kX9_readStone_119 rfl ?_
              refine q_is eX9_readStone_124 k36 (by omega) (by omega) (fun h37 e38 => ?_)
              have k39 := (am_ne e38 n (by omega)).trans k35
              have k40 := am_at e38
              refine q_blk (lv2 := [(0, vr n), (1, vi (st i)), (2, vi z2), (3, vi z5), (4, vi z28), (5, vi (6 + (3 * (E 2))))]) (st2 := [vr n]) kX9_readStone_125 rfl ?_
              refine q_gr eX9_readStone_126 fl_RX9_17 (Or.inr ⟨_, rfl⟩) k39 rfl ?_
              refine q_blk (lv2 := [(0, vr n), (1, vi (st i)), (2, vi z2), (3, vi z5), (4, vi z28), (5, vi (6 + (3 * (E 2))))]) (st2 := [vi z28, vi ((6 + (3 * (E 2))) + 2), vr (n + 2)]) kX9_readStone_129 rfl ?_
              refine q_is eX9_readStone_135 k40 (by omega) (by omega) (fun h41 e42 => ?_)
              have k43 := (am_ne e42 n (by omega)).trans k39
              have k44 := am_at e42
              refine q_blk (lv2 := [(0, vr n), (1, vi (st i)), (2, vi z2), (3, vi z5), (4, vi z28), (5, vi (6 + (3 * (E 2))))]) (st2 := [vr n]) kX9_readStone_136 rfl ?_
              refine q_gr eX9_readStone_137 fl_RX9_17 (Or.inr ⟨_, rfl⟩) k43 rfl ?_
              refine q_blk (lv2 := [(0, vr n), (1, vi (st i)), (2, vi z2), (3, vi z5), (4, vi z28), (5, vi (6 + (3 * (E 2))))]) (st2 := [vi 2, vr (n + 2), vi 2, vr (n + 2)]) kX9_readStone_140 rfl ?_
              refine q_ia eX9_readStone_142 k44 (by decide) (by omega) (by omega) (z := ((am_uI (am_uI (am_uI E (6 + (3 * (E 2))) z2) ((6 + (3 * (E 2))) + 1) z5) ((6 + (3 * (E 2))) + 2) z28) 2)) rfl ?_
              refine q_blk (lv2 := [(0, vr n), (1, vi (st i)), (2, vi z2), (3, vi z5), (4, vi z28), (5, vi (6 + (3 * (E 2))))]) (st2 := [vi (((am_uI (am_uI (am_uI E (6 + (3 * (E 2))) z2) ((6 + (3 * (E 2))) + 1) z5) ((6 + (3 * (E 2))) + 2) z28) 2) + 1), vi 2, vr (n + 2)]) kX9_readStone_143 rfl ?_
              refine q_is eX9_readStone_145 k44 (by omega) (by omega) (fun h45 e46 => ?_)
              have k47 := (am_ne e46 n (by omega)).trans k43
              have k48 := am_at e46
              exact q_rv rfl eX9_readStone_146 ⟨rfl, Or.inl ⟨_, gm_addS E z2 z5 z28, _, _, rS0_5 (by omega) (rP_3 (by rw [← e0]; exact Kh4) (by rw [← e1]; exact Kh7)) (fun q => ((gm_oc_s hD hs).mp q).elim e11 e20) Kh30, gm_addS_g hD (by omega) hs _ _ _, gm_addS_vd hD (by omega) ⟨by omega, by omega⟩ ⟨by omega, by omega⟩ ⟨by omega, by omega⟩, gm_addS_up ⟨by omega, by omega⟩ _ _ _, Th30, ⟨k47, by have q9 := k48; rw [gm_addS_m (by omega)] at q9; exact q9⟩⟩, (Yh30').tr ((am_fr.tr (am_fr.tr (am_fr.tr (am_fr.st e34 (by omega) (by omega)) (am_fr.st e38 (by omega) (by omega))) (am_fr.st e42 (by omega) (by omega))) (am_fr.st e46 (by omega) (by omega)) : am_fr _ _ (n + 2) (n + 3)).f2d)⟩
            · skip
              have Yh30' : am_f2 h h30 n := Yh7'.tr Vh30
              have hbh30 : h30.1 (n + 1) = some (100, 800, bf, am_N) := (Yh30'.2 (n + 1) (by omega) (by omega)).trans hb
              obtain ⟨m0h30, m1h30⟩ := id Mh30
              refine q_blk (lv2 := [(0, vr n), (1, vi (st i)), (2, vi z2), (3, vi z5), (4, vi z28)]) (st2 := [vr n]) kX9_readStone_84 rfl ?_
              refine q_Vi (av := []) (st := []) (c_X9_isGood_b Mh30 Zh30) lk_RX9_145 (by decide) rfl rfl Mh30.ob ⟨_, rfl, rfl⟩ (Nat.le_of_ble_eq_true rfl) eX9_readStone_87 (fun z49 e50 => ?_)
              subst e50
              refine AQ.of (AS.if_ne_f eX9_readStone_90 ⟨by decide, by decide⟩ (by decide) (by decide)) ?_
              exact q_rv rfl eX9_readStone_93 ⟨rfl, Or.inr ⟨_, _, _, _, _, rS0_4 (by omega) (rP_3 (by rw [← e0]; exact Kh4) (by rw [← e1]; exact Kh7)) (fun q => ((gm_oc_s hD hs).mp q).elim e11 e20) Kh30, Zh30, Mh30⟩, Yh30'⟩
      · skip
        have Yh7' : am_f2 h h7 n := Yh4'.tr Vh7
        have hbh7 : h7.1 (n + 1) = some (100, 800, bf, am_N) := (Yh7'.2 (n + 1) (by omega) (by omega)).trans hb
        obtain ⟨m0h7, m1h7⟩ := id Mh7
        refine q_blk (lv2 := [(0, vr n), (1, vi (st i)), (2, vi z2), (3, vi z5)]) (st2 := [vr n]) kX9_readStone_41 rfl ?_
        refine q_Vi (av := []) (st := []) (c_X9_isGood_b Mh7 Zh7) lk_RX9_145 (by decide) rfl rfl Mh7.ob ⟨_, rfl, rfl⟩ (Nat.le_of_ble_eq_true rfl) eX9_readStone_43 (fun z51 e52 => ?_)
        subst e52
        refine AQ.of (AS.if_eq_t (tgt := 77) eX9_readStone_46 (by decide) ⟨by decide, by decide⟩ (by decide)) ?_
        refine q_blk (lv2 := [(0, vr n), (1, vi (st i)), (2, vi z2), (3, vi z5)]) (st2 := [vi 99, vi 1, vr n]) kX9_readStone_77 rfl ?_
        refine q_Vi (av := [vi 1, vi 99]) (st := []) (c_X9_number_b Mh7 Zh7 (lo := 1) (hi := 99)) lk_RX9_197 (by decide) rfl rfl Mh7.ob ⟨_, rfl, rfl⟩ (Nat.le_of_ble_eq_true rfl) eX9_readStone_81 (fun z53 e54 => ?_)
        subst e54
        refine q_blk (lv2 := [(0, vr n), (1, vi (st i)), (2, vi z2), (3, vi z5), (4, vi 0)]) (st2 := [vr n]) kX9_readStone_84 rfl ?_
        refine q_Vi (av := []) (st := []) (c_X9_isGood_b Mh7 Zh7) lk_RX9_145 (by decide) rfl rfl Mh7.ob ⟨_, rfl, rfl⟩ (Nat.le_of_ble_eq_true rfl) eX9_readStone_87 (fun z55 e56 => ?_)
        subst e56
        refine AQ.of (AS.if_ne_f eX9_readStone_90 ⟨by decide, by decide⟩ (by decide) (by decide)) ?_
        exact q_rv rfl eX9_readStone_93 ⟨rfl, Or.inr ⟨_, _, _, _, _, rS0_1 (by omega) (rP_2 (by rw [← e0]; exact Kh4) (by rw [← e1]; exact Kh7)), Zh7, Mh7⟩, Yh7'⟩
    · skip
      have Yh4' : am_f2 h h4 n := Vh4
      have hbh4 : h4.1 (n + 1) = some (100, 800, bf, am_N) := (Yh4'.2 (n + 1) (by omega) (by omega)).trans hb
      obtain ⟨m0h4, m1h4⟩ := id Mh4
      refine q_blk (lv2 := [(0, vr n), (1, vi (st i)), (2, vi z2)]) (st2 := [vr n, vi 0, vr n]) kX9_readStone_29 rfl ?_
      refine q_gr eX9_readStone_33 fl_RX9_17 (Or.inr ⟨_, rfl⟩) m0h4 rfl ?_
      refine q_blk (lv2 := [(0, vr n), (1, vi (st i)), (2, vi z2)]) (st2 := [vi 1, vr (n + 2), vi 0, vr n]) kX9_readStone_36 rfl ?_
      refine q_ia eX9_readStone_37 m1h4 (by decide) (by omega) (by omega) (z := (E 1)) rfl ?_
      refine q_Vi (av := [vi 0, vi (E 1)]) (st := []) (c_X9_number_b Mh4 Zh4 (lo := 0) (hi := (E 1))) lk_RX9_197 (by decide) rfl rfl Mh4.ob ⟨_, rfl, rfl⟩ (Nat.le_of_ble_eq_true rfl) eX9_readStone_38 (fun z57 e58 => ?_)
      subst e58
      refine q_blk (lv2 := [(0, vr n), (1, vi (st i)), (2, vi z2), (3, vi 0)]) (st2 := [vr n]) kX9_readStone_41 rfl ?_
      refine q_Vi (av := []) (st := []) (c_X9_isGood_b Mh4 Zh4) lk_RX9_145 (by decide) rfl rfl Mh4.ob ⟨_, rfl, rfl⟩ (Nat.le_of_ble_eq_true rfl) eX9_readStone_43 (fun z59 e60 => ?_)
      subst e60
      refine AQ.of (AS.if_eq_t (tgt := 77) eX9_readStone_46 (by decide) ⟨by decide, by decide⟩ (by decide)) ?_
      refine q_blk (lv2 := [(0, vr n), (1, vi (st i)), (2, vi z2), (3, vi 0)]) (st2 := [vi 99, vi 1, vr n]) kX9_readStone_77 rfl ?_
      refine q_Vi (av := [vi 1, vi 99]) (st := []) (c_X9_number_b Mh4 Zh4 (lo := 1) (hi := 99)) lk_RX9_197 (by decide) rfl rfl Mh4.ob ⟨_, rfl, rfl⟩ (Nat.le_of_ble_eq_true rfl) eX9_readStone_81 (fun z61 e62 => ?_)
      subst e62
      refine q_blk (lv2 := [(0, vr n), (1, vi (st i)), (2, vi z2), (3, vi 0), (4, vi 0)]) (st2 := [vr n]) kX9_readStone_84 rfl ?_
      refine q_Vi (av := []) (st := []) (c_X9_isGood_b Mh4 Zh4) lk_RX9_145 (by decide) rfl rfl Mh4.ob ⟨_, rfl, rfl⟩ (Nat.le_of_ble_eq_true rfl) eX9_readStone_87 (fun z63 e64 => ?_)
      subst e64
      refine AQ.of (AS.if_ne_f eX9_readStone_90 ⟨by decide, by decide⟩ (by decide) (by decide)) ?_
      exact q_rv rfl eX9_readStone_93 ⟨rfl, Or.inr ⟨_, _, _, _, _, rS0_1 (by omega) (rP_1 (by rw [← e0]; exact Kh4)), Zh4, Mh4⟩, Yh4'⟩
  · skip
    refine q_blk (lv2 := [(0, vr n), (1, vi (st i))]) (st2 := [vi (st i), vi (-5), vr n]) kX9_readStone_11 rfl ?_
    refine AQ.callVv (av := [vi (-5), vi (st i)]) (st := []) (c_X9_report_g hm (k := (-5)) (a := (st i))) lk_RX9_162 (by decide) rfl rfl hm.ob ⟨_, rfl, rfl⟩ (Nat.le_of_ble_eq_true rfl) eX9_readStone_15 (fun h67 e66 => ?_)
    obtain ⟨Mh67, Fh67⟩ := e66
    have Vh67 : am_f2 h h67 n := Fh67.f2
    have hbh67 : h67.1 (n + 1) = some (100, 800, bf, am_N) := (Vh67.2 (n + 1) (by omega) (by omega)).trans hb
    obtain ⟨m0h67, m1h67⟩ := id Mh67
    have Yh67 : ((-5) : Int) ≠ 0 ∧ am_r (-5) := ⟨by decide, by decide, by decide⟩
    refine q_blk (lv2 := [(0, vr n), (1, vi (st i))]) (st2 := [vr n, vi 0, vr n]) kX9_readStone_18 rfl ?_
    refine q_gr eX9_readStone_21 fl_RX9_17 (Or.inr ⟨_, rfl⟩) m0h67 rfl ?_
    refine q_blk (lv2 := [(0, vr n), (1, vi (st i))]) (st2 := [vi 0, vr (n + 2), vi 0, vr n]) kX9_readStone_24 rfl ?_
    refine q_ia eX9_readStone_25 m1h67 (by decide) (by omega) (by omega) (z := (E 0)) rfl ?_
    refine q_Vi (av := [vi 0, vi (E 0)]) (st := []) (c_X9_number_b Mh67 Yh67 (lo := 0) (hi := (E 0))) lk_RX9_197 (by decide) rfl rfl Mh67.ob ⟨_, rfl, rfl⟩ (Nat.le_of_ble_eq_true rfl) eX9_readStone_26 (fun z68 e69 => ?_)
    subst e69
    refine q_blk (lv2 := [(0, vr n), (1, vi (st i)), (2, vi 0)]) (st2 := [vr n, vi 0, vr n]) kX9_readStone_29 rfl ?_
    refine q_gr eX9_readStone_33 fl_RX9_17 (Or.inr ⟨_, rfl⟩) m0h67 rfl ?_
    refine q_blk (lv2 := [(0, vr n), (1, vi (st i)), (2, vi 0)]) (st2 := [vi 1, vr (n + 2), vi 0, vr n]) kX9_readStone_36 rfl ?_
    refine q_ia eX9_readStone_37 m1h67 (by decide) (by omega) (by omega) (z := (E 1)) rfl ?_
    refine q_Vi (av := [vi 0, vi (E 1)]) (st := []) (c_X9_number_b Mh67 Yh67 (lo := 0) (hi := (E 1))) lk_RX9_197 (by decide) rfl rfl Mh67.ob ⟨_, rfl, rfl⟩ (Nat.le_of_ble_eq_true rfl) eX9_readStone_38 (fun z70 e71 => ?_)
    subst e71
    refine q_blk (lv2 := [(0, vr n), (1, vi (st i)), (2, vi 0), (3, vi 0)]) (st2 := [vr n]) kX9_readStone_41 rfl ?_
    refine q_Vi (av := []) (st := []) (c_X9_isGood_b Mh67 Yh67) lk_RX9_145 (by decide) rfl rfl Mh67.ob ⟨_, rfl, rfl⟩ (Nat.le_of_ble_eq_true rfl) eX9_readStone_43 (fun z72 e73 => ?_)
    subst e73
    refine AQ.of (AS.if_eq_t (tgt := 77) eX9_readStone_46 (by decide) ⟨by decide, by decide⟩ (by decide)) ?_
    refine q_blk (lv2 := [(0, vr n), (1, vi (st i)), (2, vi 0), (3, vi 0)]) (st2 := [vi 99, vi 1, vr n]) kX9_readStone_77 rfl ?_
    refine q_Vi (av := [vi 1, vi 99]) (st := []) (c_X9_number_b Mh67 Yh67 (lo := 1) (hi := 99)) lk_RX9_197 (by decide) rfl rfl Mh67.ob ⟨_, rfl, rfl⟩ (Nat.le_of_ble_eq_true rfl) eX9_readStone_81 (fun z74 e75 => ?_)
    subst e75
    refine q_blk (lv2 := [(0, vr n), (1, vi (st i)), (2, vi 0), (3, vi 0), (4, vi 0)]) (st2 := [vr n]) kX9_readStone_84 rfl ?_
    refine q_Vi (av := []) (st := []) (c_X9_isGood_b Mh67 Yh67) lk_RX9_145 (by decide) rfl rfl Mh67.ob ⟨_, rfl, rfl⟩ (Nat.le_of_ble_eq_true rfl) eX9_readStone_87 (fun z76 e77 => ?_)
    subst e77
    refine AQ.of (AS.if_ne_f eX9_readStone_90 ⟨by decide, by decide⟩ (by decide) (by decide)) ?_
    exact q_rv rfl eX9_readStone_93 ⟨rfl, Or.inr ⟨_, _, _, _, _, rS0_0 (by omega), Yh67, Mh67⟩, Vh67⟩

section RDG
variable {kd st vl : Int → Int} {he x y o j : Int} {e : Int × Int} {D D1 : Int → Int}
theorem rG_0 (h : ¬ D 3 < 6) : rG kd st vl D he = .inl (-5, st he) := if_neg h
theorem rG_1 (h : D 3 < 6) (h1 : rN kd st vl 0 3 (he + 1) = .inl e) : rG kd st vl D he = .inl e := (if_pos h).trans (rB_l h1 _)
theorem rG_2 (h : D 3 < 6) (h1 : rN kd st vl 0 3 (he + 1) = .inr o) (hP : rP kd st vl (D 0) (D 1) (he + 1 + 1) = .inl e) : rG kd st vl D he = .inl e := (if_pos h).trans ((rB_r h1 _).trans (rB_l hP _))
theorem rG_3 (h : D 3 < 6) (h1 : rN kd st vl 0 3 (he + 1) = .inr o) (hP : rP kd st vl (D 0) (D 1) (he + 1 + 1) = .inr (x, y)) (ho : gm_oc D x y) : rG kd st vl D he = .inl (-4, st (he + 1 + 1 + 1)) := (if_pos h).trans ((rB_r h1 _).trans ((rB_r hP _).trans (gm_ite_t ho)))
theorem rG_4 (h : D 3 < 6) (h1 : rN kd st vl 0 3 (he + 1) = .inr o) (hP : rP kd st vl (D 0) (D 1) (he + 1 + 1) = .inr (x, y)) (ho : ¬ gm_oc D x y) (hK : rK kd st vl (D 3) 800 (gm_stP D o x y) (he + 1 + 1 + 1 + 1) = .inl e) : rG kd st vl D he = .inl e := (if_pos h).trans ((rB_r h1 _).trans ((rB_r hP _).trans ((gm_ite_f ho).trans (rB_l hK _))))
theorem rG_5 (h : D 3 < 6) (h1 : rN kd st vl 0 3 (he + 1) = .inr o) (hP : rP kd st vl (D 0) (D 1) (he + 1 + 1) = .inr (x, y)) (ho : ¬ gm_oc D x y) (hK : rK kd st vl (D 3) 800 (gm_stP D o x y) (he + 1 + 1 + 1 + 1) = .inr (D1, j)) (hk : kd j = 59) (hL : gm_rL D1 (D 3) 0) : rG kd st vl D he = .inr (gm_clP D1 (D 3), j + 1) := (if_pos h).trans ((rB_r h1 _).trans ((rB_r hP _).trans ((gm_ite_f ho).trans ((rB_r hK _).trans ((if_pos hk).trans (gm_ite_t hL))))))
theorem rG_6 (h : D 3 < 6) (h1 : rN kd st vl 0 3 (he + 1) = .inr o) (hP : rP kd st vl (D 0) (D 1) (he + 1 + 1) = .inr (x, y)) (ho : ¬ gm_oc D x y) (hK : rK kd st vl (D 3) 800 (gm_stP D o x y) (he + 1 + 1 + 1 + 1) = .inr (D1, j)) (hk : kd j = 59) (hL : ¬ gm_rL D1 (D 3) 0) : rG kd st vl D he = .inl (-4, st j) := (if_pos h).trans ((rB_r h1 _).trans ((rB_r hP _).trans ((gm_ite_f ho).trans ((rB_r hK _).trans ((if_pos hk).trans (gm_ite_f hL))))))
theorem rG_7 (h : D 3 < 6) (h1 : rN kd st vl 0 3 (he + 1) = .inr o) (hP : rP kd st vl (D 0) (D 1) (he + 1 + 1) = .inr (x, y)) (ho : ¬ gm_oc D x y) (hK : rK kd st vl (D 3) 800 (gm_stP D o x y) (he + 1 + 1 + 1 + 1) = .inr (D1, j)) (hk : kd j ≠ 59) : rG kd st vl D he = .inl (-2, st j) := (if_pos h).trans ((rB_r h1 _).trans ((rB_r hP _).trans ((gm_ite_f ho).trans ((rB_r hK _).trans (if_neg hk)))))
end RDG
theorem gm_ptc_up' {D : Int → Int} {p k x y : Int} (p0 : 0 ≤ p) (p1 : p < 6) (k0 : 0 ≤ k) (k1 : k ≤ pN D p) (n1 : pN D p < 12) : gm_up D (gm_ptc D p k x y) := gm_ptc_up p0 p1 k0 k1 n1
set_option maxHeartbeats 8000000 in
theorem c_X9_readPolygon {w : am_w} {h : AH} {n : Nat} {th bl tl ps ea eo ud g0 g1 g2 g3 ns ne se : Int} {E : Int → Int} (hm : MM h n th bl tl ps 0 ea eo ud g0 g1 g2 g3 ns ne se E) {bf : Int → Int} (hb : h.1 (n + 1) = some (100, 800, bf, am_N)) (hl : 0 ≤ tl ∧ tl ≤ 800) {tx kd st vl : Int → Int} {N : Int} (hx : BX bf tx tl) (hg : TG tx kd st vl tl N) {i : Int} (i0 : 0 ≤ i) (hp : TP tx st N ps (i + 1)) {D : Int → Int} (hD : VD D) (hs : gm_same D E) (hN : N ≤ 800)  : AE w m_X9_readPolygon 8 [vr n, vi (st i)] h (am_unit (fun h1 => ((∃ D' E' j px ns' g0' g1' g2' g3', rG kd st vl D i = .inr (D', j + 1) ∧ kd j = 59 ∧ i < j ∧ gm_same D' E' ∧ VD D' ∧ gm_up E E' ∧ TP tx st N px j ∧ MM h1 n th bl tl px 0 ea eo ud g0' g1' g2' g3' ns' ne se E') ∨ (∃ e a px ns' g0' g1' g2' g3' E', rG kd st vl D i = .inl (e, a) ∧ (e ≠ 0 ∧ am_r e) ∧ MM h1 n th bl tl px e a eo ud g0' g1' g2' g3' ns' ne se E')) ∧ am_f2 h h1 n)) := by
  refine AE.of wf_X9_readPolygon (Nat.le_of_ble_eq_true rfl) (am_ok_v) ?_
  obtain ⟨m0, m1⟩ := id hm
  have hE := hD.same hs
  obtain ⟨e0, e1, e2, e3, e4, e5⟩ := id hs
  have d0 := hD.1
  have d1 := hD.2.1
  have d2 := hD.2.2.1
  have d3 := hD.2.2.2.1
  refine q_blk (lv2 := [(0, vr n), (1, vi (st i))]) (st2 := [vr n]) kX9_readPolygon_0 rfl ?_
  refine q_gr eX9_readPolygon_1 fl_RX9_17 (Or.inr ⟨_, rfl⟩) m0 rfl ?_
  refine q_blk (lv2 := [(0, vr n), (1, vi (st i))]) (st2 := [vi 3, vr (n + 2)]) kX9_readPolygon_4 rfl ?_
  refine q_ia eX9_readPolygon_5 m1 (by decide) (by omega) (by omega) (z := (E 3)) rfl ?_
  refine q_blk (lv2 := [(0, vr n), (1, vi (st i))]) (st2 := [vi 6, vi (E 3)]) kX9_readPolygon_6 rfl ?_
  refine AQ.ic_ne (tgt := 18) eX9_readPolygon_8 (by decide) (by first | assumption | exact ⟨by omega, by omega⟩) ⟨by decide, by decide⟩ (fun br1 => ?_) (fun br1 => ?_)
  · skip
    refine q_blk (lv2 := [(0, vr n), (1, vi (st i))]) (st2 := [vi 3, vi 0, vr n]) kX9_readPolygon_18 rfl ?_
    refine AQ.callVi (av := [vi 0, vi 3]) (st := []) (c_X9_number_g hm hb hl hx hg hp (lo := 0) (hi := 3) (by omega) (by omega) (by omega)) lk_RX9_197 (by decide) rfl rfl hm.ob ⟨_, rfl, rfl⟩ (Nat.le_of_ble_eq_true rfl) eX9_readPolygon_21 (fun z2 h4 e3 => ?_)
    rcases e3 with ⟨⟨pxh4, Kh4, K2h4, Th4, Mh4⟩ | ⟨pxh4, nh4, eh4, ah4, Kh4, Zh4, Mh4⟩, z0h4, z1h4, Vh4⟩
    · skip
      have Yh4' : am_f2 h h4 n := Vh4
      have hbh4 : h4.1 (n + 1) = some (100, 800, bf, am_N) := (Yh4'.2 (n + 1) (by omega) (by omega)).trans hb
      obtain ⟨m0h4, m1h4⟩ := id Mh4
      have NVh4 := rN_v Kh4
      refine q_blk (lv2 := [(0, vr n), (1, vi (st i)), (2, vi z2)]) (st2 := [vr n, vi 0, vr n]) kX9_readPolygon_24 rfl ?_
      refine q_gr eX9_readPolygon_28 fl_RX9_17 (Or.inr ⟨_, rfl⟩) m0h4 rfl ?_
      refine q_blk (lv2 := [(0, vr n), (1, vi (st i)), (2, vi z2)]) (st2 := [vi 0, vr (n + 2), vi 0, vr n]) kX9_readPolygon_31 rfl ?_
      refine q_ia eX9_readPolygon_32 m1h4 (by decide) (by omega) (by omega) (z := (E 0)) rfl ?_
      refine AQ.callVi (av := [vi 0, vi (E 0)]) (st := []) (c_X9_number_g Mh4 hbh4 hl hx hg Th4 (lo := 0) (hi := (E 0)) (by omega) (by omega) (by omega)) lk_RX9_197 (by decide) rfl rfl Mh4.ob ⟨_, rfl, rfl⟩ (Nat.le_of_ble_eq_true rfl) eX9_readPolygon_33 (fun z5 h7 e6 => ?_)
      rcases e6 with ⟨⟨pxh7, Kh7, K2h7, Th7, Mh7⟩ | ⟨pxh7, nh7, eh7, ah7, Kh7, Zh7, Mh7⟩, z0h7, z1h7, Vh7⟩
      · skip
        have Yh7' : am_f2 h h7 n := Yh4'.tr Vh7
        have hbh7 : h7.1 (n + 1) = some (100, 800, bf, am_N) := (Yh7'.2 (n + 1) (by omega) (by omega)).trans hb
        obtain ⟨m0h7, m1h7⟩ := id Mh7
        have NVh7 := rN_v Kh7
        refine q_blk (lv2 := [(0, vr n), (1, vi (st i)), (2, vi z2), (3, vi z5)]) (st2 := [vr n, vi 0, vr n]) kX9_readPolygon_36 rfl ?_
        refine q_gr eX9_readPolygon_40 fl_RX9_17 (Or.inr ⟨_, rfl⟩) m0h7 rfl ?_
        refine q_blk (lv2 := [(0, vr n), (1, vi (st i)), (2, vi z2), (3, vi z5)]) (st2 := [vi 1, vr (n + 2), vi 0, vr n]) kX9_readPolygon_43 rfl ?_
        refine q_ia eX9_readPolygon_44 m1h7 (by decide) (by omega) (by omega) (z := (E 1)) rfl ?_
        refine AQ.callVi (av := [vi 0, vi (E 1)]) (st := []) (c_X9_number_g Mh7 hbh7 hl hx hg Th7 (lo := 0) (hi := (E 1)) (by omega) (by omega) (by omega)) lk_RX9_197 (by decide) rfl rfl Mh7.ob ⟨_, rfl, rfl⟩ (Nat.le_of_ble_eq_true rfl) eX9_readPolygon_45 (fun z8 h10 e9 => ?_)
        rcases e9 with ⟨⟨pxh10, Kh10, K2h10, Th10, Mh10⟩ | ⟨pxh10, nh10, eh10, ah10, Kh10, Zh10, Mh10⟩, z0h10, z1h10, Vh10⟩
        · skip
          have Yh10' : am_f2 h h10 n := Yh7'.tr Vh10
          have hbh10 : h10.1 (n + 1) = some (100, 800, bf, am_N) := (Yh10'.2 (n + 1) (by omega) (by omega)).trans hb
          obtain ⟨m0h10, m1h10⟩ := id Mh10
          have NVh10 := rN_v Kh10
          refine q_blk (lv2 := [(0, vr n), (1, vi (st i)), (2, vi z2), (3, vi z5), (4, vi z8)]) (st2 := [vr n]) kX9_readPolygon_48 rfl ?_
          refine q_Vi (av := []) (st := []) (c_X9_isGood_g Mh10) lk_RX9_145 (by decide) rfl rfl Mh10.ob ⟨_, rfl, rfl⟩ (Nat.le_of_ble_eq_true rfl) eX9_readPolygon_51 (fun z11 e12 => ?_)
          subst e12
          refine AQ.of (AS.if_eq_f eX9_readPolygon_54 ⟨by decide, by decide⟩ (by decide) (by decide)) ?_
          refine q_blk (lv2 := [(0, vr n), (1, vi (st i)), (2, vi z2), (3, vi z5), (4, vi z8)]) (st2 := [vi z8, vi z5, vr n]) kX9_readPolygon_57 rfl ?_
          refine q_Vi (av := [vi z5, vi z8]) (st := []) (c_X9_isTaken Mh10 hE (x := z5) (y := z8) ⟨by omega, by omega⟩ ⟨by omega, by omega⟩) lk_RX9_110 (by decide) rfl rfl Mh10.ob ⟨_, rfl, rfl⟩ (Nat.le_of_ble_eq_true rfl) eX9_readPolygon_61 (fun z13 e14 => ?_)
          rcases e14 with ⟨rfl, e14⟩ | ⟨rfl, e14⟩
          · skip
            refine AQ.of (AS.if_ne_t (tgt := 77) eX9_readPolygon_64 (by decide) ⟨by decide, by decide⟩ (by decide)) ?_
            refine q_blk (lv2 := [(0, vr n), (1, vi (st i)), (2, vi z2), (3, vi z5), (4, vi z8)]) (st2 := [vr n, vi (-4), vr n]) kX9_readPolygon_77 rfl ?_
            refine q_gi eX9_readPolygon_81 fl_RX9_169 (Or.inl rfl) m0h10 (z := (st (((i + 1) + 1) + 1))) rfl ?_
            refine AQ.callVv (av := [vi (-4), vi (st (((i + 1) + 1) + 1))]) (st := []) (c_X9_report_g Mh10 (k := (-4)) (a := (st (((i + 1) + 1) + 1)))) lk_RX9_162 (by decide) rfl rfl Mh10.ob ⟨_, rfl, rfl⟩ (Nat.le_of_ble_eq_true rfl) eX9_readPolygon_84 (fun h17 e16 => ?_)
            obtain ⟨Mh17, Fh17⟩ := e16
            have Vh17 : am_f2 h h17 n := Yh10'.tr (Fh17.f2)
            have hbh17 : h17.1 (n + 1) = some (100, 800, bf, am_N) := (Vh17.2 (n + 1) (by omega) (by omega)).trans hb
            obtain ⟨m0h17, m1h17⟩ := id Mh17
            have Yh17 : ((-4) : Int) ≠ 0 ∧ am_r (-4) := ⟨by decide, by decide, by decide⟩
            refine q_blk (lv2 := [(0, vr n), (1, vi (st i)), (2, vi z2), (3, vi z5), (4, vi z8)]) (st2 := [vr n]) kX9_readPolygon_87 rfl ?_
            refine q_Vi (av := []) (st := []) (c_X9_isGood_b Mh17 Yh17) lk_RX9_145 (by decide) rfl rfl Mh17.ob ⟨_, rfl, rfl⟩ (Nat.le_of_ble_eq_true rfl) eX9_readPolygon_88 (fun z18 e19 => ?_)
            subst e19
            refine AQ.of (AS.if_ne_f eX9_readPolygon_91 ⟨by decide, by decide⟩ (by decide) (by decide)) ?_
            exact q_rv rfl eX9_readPolygon_94 ⟨rfl, Or.inr ⟨_, _, _, _, _, _, _, _, _, rG_3 (by omega) Kh4 (rP_3 (by rw [← e0]; exact Kh7) (by rw [← e1]; exact Kh10)) ((gm_oc_s hD hs).mpr (Or.inl e14)), Yh17, Mh17⟩, Vh17⟩
          · skip
            refine AQ.of (AS.if_ne_f eX9_readPolygon_64 ⟨by decide, by decide⟩ (by decide) (by decide)) ?_
            refine q_blk (lv2 := [(0, vr n), (1, vi (st i)), (2, vi z2), (3, vi z5), (4, vi z8)]) (st2 := [vi z8, vi z5, vr n]) kX9_readPolygon_67 rfl ?_
            refine q_Vi (av := [vi z5, vi z8]) (st := []) (c_X9_isOnSide Mh10 hE (x := z5) (y := z8) ⟨by omega, by omega⟩ ⟨by omega, by omega⟩) lk_RX9_212 (by decide) rfl rfl Mh10.ob ⟨_, rfl, rfl⟩ (Nat.le_of_ble_eq_true rfl) eX9_readPolygon_71 (fun z20 e21 => ?_)
            rcases e21 with ⟨rfl, e21⟩ | ⟨rfl, e21⟩
            · skip
              refine AQ.of (AS.if_eq_f eX9_readPolygon_74 ⟨by decide, by decide⟩ (by decide) (by decide)) ?_
              refine q_blk (lv2 := [(0, vr n), (1, vi (st i)), (2, vi z2), (3, vi z5), (4, vi z8)]) (st2 := [vr n, vi (-4), vr n]) kX9_readPolygon_77 rfl ?_
              refine q_gi eX9_readPolygon_81 fl_RX9_169 (Or.inl rfl) m0h10 (z := (st (((i + 1) + 1) + 1))) rfl ?_
              refine AQ.callVv (av := [vi (-4), vi (st (((i + 1) + 1) + 1))]) (st := []) (c_X9_report_g Mh10 (k := (-4)) (a := (st (((i + 1) + 1) + 1)))) lk_RX9_162 (by decide) rfl rfl Mh10.ob ⟨_, rfl, rfl⟩ (Nat.le_of_ble_eq_true rfl) eX9_readPolygon_84 (fun h24 e23 => ?_)
              obtain ⟨Mh24, Fh24⟩ := e23
              have Vh24 : am_f2 h h24 n := Yh10'.tr (Fh24.f2)
              have hbh24 : h24.1 (n + 1) = some (100, 800, bf, am_N) := (Vh24.2 (n + 1) (by omega) (by omega)).trans hb
              obtain ⟨m0h24, m1h24⟩ := id Mh24
              have Yh24 : ((-4) : Int) ≠ 0 ∧ am_r (-4) := ⟨by decide, by decide, by decide⟩
              refine q_blk (lv2 := [(0, vr n), (1, vi (st i)), (2, vi z2), (3, vi z5), (4, vi z8)]) (st2 := [vr n]) kX9_readPolygon_87 rfl ?_
              refine q_Vi (av := []) (st := []) (c_X9_isGood_b Mh24 Yh24) lk_RX9_145 (by decide) rfl rfl Mh24.ob ⟨_, rfl, rfl⟩ (Nat.le_of_ble_eq_true rfl) eX9_readPolygon_88 (fun z25 e26 => ?_)
              subst e26
              refine AQ.of (AS.if_ne_f eX9_readPolygon_91 ⟨by decide, by decide⟩ (by decide) (by decide)) ?_
              exact q_rv rfl eX9_readPolygon_94 ⟨rfl, Or.inr ⟨_, _, _, _, _, _, _, _, _, rG_3 (by omega) Kh4 (rP_3 (by rw [← e0]; exact Kh7) (by rw [← e1]; exact Kh10)) ((gm_oc_s hD hs).mpr (Or.inr e21)), Yh24, Mh24⟩, Vh24⟩
            · skip
              refine AQ.of (AS.if_eq_t (tgt := 87) eX9_readPolygon_74 (by decide) ⟨by decide, by decide⟩ (by decide)) ?_
              refine q_blk (lv2 := [(0, vr n), (1, vi (st i)), (2, vi z2), (3, vi z5), (4, vi z8)]) (st2 := [vr n]) kX9_readPolygon_87 rfl ?_
              refine q_Vi (av := []) (st := []) (c_X9_isGood_g Mh10) lk_RX9_145 (by decide) rfl rfl Mh10.ob ⟨_, rfl, rfl⟩ (Nat.le_of_ble_eq_true rfl) eX9_readPolygon_88 (fun z27 e28 => ?_)
              subst e28
              refine AQ.of (AS.if_ne_t (tgt := 95) eX9_readPolygon_91 (by decide) ⟨by decide, by decide⟩ (by decide)) ?_
              refine q_blk (lv2 := [(0, vr n), (1, vi (st i)), (2, vi z2), (3, vi z5), (4, vi z8)]) (st2 := [vi z8, vi z5, vi z2, vr n]) kX9_readPolygon_95 rfl ?_
              refine AQ.callVv (av := [vi z2, vi z5, vi z8]) (st := []) (c_X9_beginPolygon Mh10 (pl := z2) (x := z5) (y := z8) ⟨by omega, by omega⟩) lk_RX9_215 (by decide) rfl rfl Mh10.ob ⟨_, rfl, rfl⟩ (Nat.le_of_ble_eq_true rfl) eX9_readPolygon_100 (fun h31 e30 => ?_)
              obtain ⟨Mh31, Fh31⟩ := e30
              obtain ⟨E1, hE1⟩ : ∃ q, q = gm_stP E z2 z5 z8 := ⟨_, rfl⟩
              rw [← hE1] at Mh31
              have S1 : gm_same (gm_stP D z2 z5 z8) E1 := by rw [hE1]; exact gm_stP_s hD (by omega) hs _ _ _
              have V1 : VD (gm_stP D z2 z5 z8) := gm_stP_vd hD (by omega) ⟨by omega, by omega⟩ ⟨by omega, by omega⟩ ⟨by omega, by omega⟩
              have U1 : gm_up E E1 := by rw [hE1]; exact gm_stP_up ⟨by omega, by omega⟩ _ _ _
              have t1 : gm_stP D z2 z5 z8 3 = D 3 + 1 := am_uI_at _ _ _
              have t2 : E1 3 = D 3 + 1 := S1.2.2.2.1.trans t1
              obtain ⟨D1, hD1⟩ : ∃ q, q = gm_stP D z2 z5 z8 := ⟨_, rfl⟩
              rw [← hD1] at S1 V1 t1
              have hoc : ¬ gm_oc D z5 z8 := (fun q => ((gm_oc_s hD hs).mp q).elim e14 e21)
              have hrP : rP kd st vl (D 0) (D 1) (i + 1 + 1) = .inr (z5, z8) := rP_3 (by rw [← e0]; exact Kh7) (by rw [← e1]; exact Kh10)
              have hrO := Kh4
              have Yh31' : am_f2 h h31 n := Yh10'.tr (Fh31.f2d)
              have hbh31 : h31.1 (n + 1) = some (100, 800, bf, am_N) := (Yh31'.2 (n + 1) (by omega) (by omega)).trans hb
              obtain ⟨m0h31, m1h31⟩ := id Mh31
              refine q_blk (lv2 := [(0, vr n), (1, vi (st i)), (2, vi z2), (3, vi z5), (4, vi z8)]) (st2 := [vr n]) kX9_readPolygon_103 rfl ?_
              refine q_gr eX9_readPolygon_104 fl_RX9_17 (Or.inr ⟨_, rfl⟩) m0h31 rfl ?_
              refine q_blk (lv2 := [(0, vr n), (1, vi (st i)), (2, vi z2), (3, vi z5), (4, vi z8)]) (st2 := [vi 3, vr (n + 2)]) kX9_readPolygon_107 rfl ?_
              refine q_ia eX9_readPolygon_108 m1h31 (by decide) (by omega) (by omega) (z := (E1 3)) rfl ?_
              refine q_blk (lv2 := [(0, vr n), (1, vi (st i)), (2, vi z2), (3, vi z5), (4, vi z8), (5, vi ((E1 3) - 1))]) (st2 := []) kX9_readPolygon_109 rfl ?_
              rw [show E1 3 - 1 = D 3 by omega]
              refine q_sub (lv2 := [(0, vr n), (5, vi (D 3))]) [0, 5] rfl ?_
              refine am_lp7 (I := fun  (hh : AH) (px9 : Int) (ns9 : Int) (E9 : Int → Int) (D9 : Int → Int) (i9 : Int) (f9 : Nat) => rK kd st vl (D 3) 800 D1 (i + 1 + 1 + 1 + 1) = rK kd st vl (D 3) f9 D9 i9 ∧ (i + 4 ≤ i9 ∧ i9 ≤ N) ∧ N - i9 ≤ (f9 : Int) ∧ gm_same D9 E9 ∧ VD D9 ∧ D9 3 = D 3 + 1 ∧ gm_up E E9 ∧ TP tx st N px9 i9 ∧ (∃ a9 b9 c9 d9, MM hh n th bl tl px9 0 ea eo ud a9 b9 c9 d9 ns9 ne se E9) ∧ am_f2 h hh n) (μ := fun  (hh : AH) (px9 : Int) (ns9 : Int) (E9 : Int → Int) (D9 : Int → Int) (i9 : Int) (f9 : Nat) => (N - i9).toNat) (G := fun  (hh : AH) (px9 : Int) (ns9 : Int) (E9 : Int → Int) (D9 : Int → Int) (i9 : Int) (f9 : Nat) => AQ w m_X9_readPolygon 8 113 [(0, vr n), (5, vi (D 3))] [] hh (am_unit (fun h1 => ((∃ D' E' j px ns' g0' g1' g2' g3', rG kd st vl D i = .inr (D', j + 1) ∧ kd j = 59 ∧ i < j ∧ gm_same D' E' ∧ VD D' ∧ gm_up E E' ∧ TP tx st N px j ∧ MM h1 n th bl tl px 0 ea eo ud g0' g1' g2' g3' ns' ne se E') ∨ (∃ e a px ns' g0' g1' g2' g3' E', rG kd st vl D i = .inl (e, a) ∧ (e ≠ 0 ∧ am_r e) ∧ MM h1 n th bl tl px e a eo ud g0' g1' g2' g3' ns' ne se E')) ∧ am_f2 h h1 n))) ?_ h31 pxh10 (st (((i + 1) + 1) + 1)) E1 D1 (i + 1 + 1 + 1 + 1) 800 (⟨rfl, ⟨by omega, Th10.1.2⟩, by omega, S1, V1, t1, U1, Th10, ⟨_, _, _, _, Mh31⟩, Yh31'⟩)
              intro hh px9 ns9 E9 D9 i9 f9 hI33 ih32
              obtain ⟨hR9, ⟨i90, i91⟩, hf99, hs9, hV9, hd9, hu9, hT9, ⟨a9, b9, c9, d9, hm9⟩, hf9⟩ := hI33
              obtain ⟨m0', m1'⟩ := id hm9
              have hb9 := (hf9.2 (n + 1) (by omega) (by omega)).trans hb
              have hch9 := hg.ch hx hT9.1.1 hT9.1.2
              have hE9 := hV9.same hs9
              have q0 := hs9.1
              have q1 := hs9.2.1
              have q3 := hs9.2.2.2.1
              have n0 := hV9.1
              have n1 := hV9.2.1
              have hn9 := hV9.n (p := D 3) (by omega) (by omega)
              have hn8 := (hs9.2.2.2.2.2 (D 3) (by omega) (by omega)).2.1
              refine q_blk (lv2 := [(0, vr n), (5, vi (D 3))]) (st2 := [vr n]) kX9_readPolygon_113 rfl ?_
              refine q_Vi (av := []) (st := []) (c_X9_isGood_g hm9) lk_RX9_145 (by decide) rfl rfl hm9.ob ⟨_, rfl, rfl⟩ (Nat.le_of_ble_eq_true rfl) eX9_readPolygon_114 (fun z34 e35 => ?_)
              subst e35
              refine AQ.of (AS.if_eq_f eX9_readPolygon_117 ⟨by decide, by decide⟩ (by decide) (by decide)) ?_
              refine q_blk (lv2 := [(0, vr n), (5, vi (D 3))]) (st2 := [vr n]) kX9_readPolygon_120 rfl ?_
              refine AQ.callVi (av := []) (st := []) (c_X9_next hm9 hb9 hl hx hg hT9) lk_RX9_149 (by decide) rfl rfl hm9.ob ⟨_, rfl, rfl⟩ (Nat.le_of_ble_eq_true rfl) eX9_readPolygon_121 (fun z36 h38 e37 => ?_)
              obtain ⟨rfl, Mh38, Fh38⟩ := e37
              have Vh38 : am_f2 h h38 n := hf9.tr (Fh38.f2)
              have hbh38 : h38.1 (n + 1) = some (100, 800, bf, am_N) := (Vh38.2 (n + 1) (by omega) (by omega)).trans hb
              obtain ⟨m0h38, m1h38⟩ := id Mh38
              have Ph38 := hT9.at hg hl.1
              refine q_Si (av := [vi (gm_T bf tl (st i9))]) (st := []) (c_X9_isDigit (x := (gm_T bf tl (st i9))) ⟨by omega, by omega⟩) lk_RX9_166 (by decide) rfl rfl (Nat.le_of_ble_eq_true rfl) eX9_readPolygon_124 (fun z39 e40 => ?_)
              rcases e40 with ⟨rfl, e40⟩ | ⟨rfl, e40⟩
              · skip
                refine AQ.of (AS.if_eq_f eX9_readPolygon_127 ⟨by decide, by decide⟩ (by decide) (by decide)) ?_
                have hk9 : kd i9 = 2 := hch9.2.2.2.1.mpr (by omega)
                have hN9 := (hg.nu hx hT9.1.1 hT9.1.2 hk9).1
                refine q_blk (lv2 := [(0, vr n), (5, vi (D 3))]) (st2 := [vr n, vi 0, vr n]) kX9_readPolygon_130 rfl ?_
                refine q_gr eX9_readPolygon_133 fl_RX9_17 (Or.inr ⟨_, rfl⟩) m0h38 rfl ?_
                refine q_blk (lv2 := [(0, vr n), (5, vi (D 3))]) (st2 := [vi 0, vr (n + 2), vi 0, vr n]) kX9_readPolygon_136 rfl ?_
                refine q_ia eX9_readPolygon_137 m1h38 (by decide) (by omega) (by omega) (z := (E9 0)) rfl ?_
                refine AQ.callVi (av := [vi 0, vi (E9 0)]) (st := []) (c_X9_number_g Mh38 hbh38 hl hx hg Ph38 (lo := 0) (hi := (E9 0)) (by omega) (by omega) (by omega)) lk_RX9_197 (by decide) rfl rfl Mh38.ob ⟨_, rfl, rfl⟩ (Nat.le_of_ble_eq_true rfl) eX9_readPolygon_138 (fun z41 h43 e42 => ?_)
                rcases e42 with ⟨⟨pxh43, Kh43, K2h43, Th43, Mh43⟩ | ⟨pxh43, nh43, eh43, ah43, Kh43, Zh43, Mh43⟩, z0h43, z1h43, Vh43⟩
                · skip
                  have Yh43' : am_f2 h h43 n := Vh38.tr Vh43
                  have hbh43 : h43.1 (n + 1) = some (100, 800, bf, am_N) := (Yh43'.2 (n + 1) (by omega) (by omega)).trans hb
                  obtain ⟨m0h43, m1h43⟩ := id Mh43
                  have NVh43 := rN_v Kh43
                  refine q_blk (lv2 := [(0, vr n), (3, vi z41), (5, vi (D 3))]) (st2 := [vr n, vi 0, vr n]) kX9_readPolygon_141 rfl ?_
                  refine q_gr eX9_readPolygon_145 fl_RX9_17 (Or.inr ⟨_, rfl⟩) m0h43 rfl ?_
                  refine q_blk (lv2 := [(0, vr n), (3, vi z41), (5, vi (D 3))]) (st2 := [vi 1, vr (n + 2), vi 0, vr n]) kX9_readPolygon_148 rfl ?_
                  refine q_ia eX9_readPolygon_149 m1h43 (by decide) (by omega) (by omega) (z := (E9 1)) rfl ?_
                  refine AQ.callVi (av := [vi 0, vi (E9 1)]) (st := []) (c_X9_number_g Mh43 hbh43 hl hx hg Th43 (lo := 0) (hi := (E9 1)) (by omega) (by omega) (by omega)) lk_RX9_197 (by decide) rfl rfl Mh43.ob ⟨_, rfl, rfl⟩ (Nat.le_of_ble_eq_true rfl) eX9_readPolygon_150 (fun z44 h46 e45 => ?_)
                  rcases e45 with ⟨⟨pxh46, Kh46, K2h46, Th46, Mh46⟩ | ⟨pxh46, nh46, eh46, ah46, Kh46, Zh46, Mh46⟩, z0h46, z1h46, Vh46⟩
                  · skip
                    have Yh46' : am_f2 h h46 n := Yh43'.tr Vh46
                    have hbh46 : h46.1 (n + 1) = some (100, 800, bf, am_N) := (Yh46'.2 (n + 1) (by omega) (by omega)).trans hb
                    obtain ⟨m0h46, m1h46⟩ := id Mh46
                    have NVh46 := rN_v Kh46
                    refine q_blk (lv2 := [(0, vr n), (3, vi z41), (4, vi z44), (5, vi (D 3))]) (st2 := [vr n]) kX9_readPolygon_153 rfl ?_
                    refine q_Vi (av := []) (st := []) (c_X9_isGood_g Mh46) lk_RX9_145 (by decide) rfl rfl Mh46.ob ⟨_, rfl, rfl⟩ (Nat.le_of_ble_eq_true rfl) eX9_readPolygon_156 (fun z47 e48 => ?_)
                    subst e48
                    refine AQ.of (AS.if_eq_f eX9_readPolygon_159 ⟨by decide, by decide⟩ (by decide) (by decide)) ?_
                    refine q_blk (lv2 := [(0, vr n), (3, vi z41), (4, vi z44), (5, vi (D 3))]) (st2 := [vi z44, vi z41, vi (D 3), vr n]) kX9_readPolygon_162 rfl ?_
                    refine AQ.callVi (av := [vi (D 3), vi z41, vi z44]) (st := []) (c_X9_cornerReason Mh46 hE9 (p := (D 3)) (x := z41) (y := z44) (by omega) (by omega) ⟨by omega, by omega⟩ ⟨by omega, by omega⟩) lk_RX9_219 (by decide) rfl rfl Mh46.ob ⟨_, rfl, rfl⟩ (Nat.le_of_ble_eq_true rfl) eX9_readPolygon_168 (fun z49 h51 e50 => ?_)
                    obtain ⟨Zh51, ah51, bh51, ch51, dh51, Mh51, Fh51⟩ := e50
                    have zrh51 := gm_rC_r Zh51
                    have Yh51' : am_f2 h h51 n := Yh46'.tr (Fh51.f2)
                    have hbh51 : h51.1 (n + 1) = some (100, 800, bf, am_N) := (Yh51'.2 (n + 1) (by omega) (by omega)).trans hb
                    obtain ⟨m0h51, m1h51⟩ := id Mh51
                    refine AQ.if_eq (tgt := 184) eX9_readPolygon_171 (by decide) (by first | assumption | exact ⟨by omega, by omega⟩) (fun br52 => ?_) (fun br52 => ?_)
                    · skip
                      refine q_blk (lv2 := [(0, vr n), (3, vi z41), (4, vi z44), (5, vi (D 3))]) (st2 := [vr n]) kX9_readPolygon_184 rfl ?_
                      refine q_Vi (av := []) (st := []) (c_X9_isGood_g Mh51) lk_RX9_145 (by decide) rfl rfl Mh51.ob ⟨_, rfl, rfl⟩ (Nat.le_of_ble_eq_true rfl) eX9_readPolygon_185 (fun z53 e54 => ?_)
                      subst e54
                      refine AQ.of (AS.if_eq_f eX9_readPolygon_188 ⟨by decide, by decide⟩ (by decide) (by decide)) ?_
                      have R0 := Zh51
                      rw [show z49 = 0 by omega] at R0
                      have R9 := (gm_rC_i hV9 hs9 (p := D 3) (x := z41) (y := z44) (by omega) (by omega)).mpr R0
                      have r9 := gm_rC_0 R9
                      refine q_blk (lv2 := [(0, vr n), (3, vi z41), (4, vi z44), (5, vi (D 3))]) (st2 := [vi (D 3), vr n, vi (D 3), vr n]) kX9_readPolygon_191 rfl ?_
                      refine q_Vi (av := [vi (D 3)]) (st := [vi (D 3), vr n]) (c_X9_countOf0 Mh51 (p := (D 3)) (by omega) (by omega)) lk_RX9_39 (by decide) rfl rfl Mh51.ob ⟨_, rfl, rfl⟩ (Nat.le_of_ble_eq_true rfl) eX9_readPolygon_197 (fun z55 e56 => ?_)
                      subst e56
                      refine q_blk (lv2 := [(0, vr n), (3, vi z41), (4, vi z44), (5, vi (D 3))]) (st2 := [vi z44, vi z41, vi (pN E9 (D 3)), vi (D 3), vr n]) kX9_readPolygon_200 rfl ?_
                      refine AQ.callVv (av := [vi (D 3), vi (pN E9 (D 3)), vi z41, vi z44]) (st := []) (c_X9_putCorner Mh51 (p := (D 3)) (k := (pN E9 (D 3))) (x := z41) (y := z44) (by omega) (by omega) (by omega) (by omega) (by omega)) lk_RX9_124 (by decide) rfl rfl Mh51.ob ⟨_, rfl, rfl⟩ (Nat.le_of_ble_eq_true rfl) eX9_readPolygon_203 (fun h59 e58 => ?_)
                      obtain ⟨Mh59, Fh59⟩ := e58
                      have Yh59' : am_f2 h h59 n := Yh51'.tr (Fh59.f2d)
                      have hbh59 : h59.1 (n + 1) = some (100, 800, bf, am_N) := (Yh59'.2 (n + 1) (by omega) (by omega)).trans hb
                      obtain ⟨m0h59, m1h59⟩ := id Mh59
                      refine q_goto (tgt := 113) eX9_readPolygon_206 (by decide) ?_
                      refine q_sub (lv2 := [(0, vr n), (5, vi (D 3))]) [0, 3] rfl ?_
                      exact ih32 h59 pxh46 (st (i9 + 1)) (gm_ptc E9 (D 3) (pN E9 (D 3)) z41 z44) (gm_adC D9 (D 3) z41 z44) (i9 + 1 + 1) (f9 - 1) (⟨by rw [hR9, rK_go (by omega) hk9 (rP_3 (by rw [← q0]; exact Kh43) (by rw [← q1]; exact Kh46)) R9], ⟨by omega, by have := Th46.1.2; omega⟩, by omega, (gm_adC_s hV9 hs9 (by omega) (by omega) (by omega)).tr (gm_ptc_same (by omega) (by omega) (by omega) (by omega) hE9.2.2.1 (fun q q0 q1 => by have := hE9.n q0 q1; omega)), gm_adC_vd hV9 (by omega) (by omega) r9.1 r9.2.1 ⟨by omega, by omega⟩ ⟨by omega, by omega⟩, by rw [show gm_adC D9 (D 3) z41 z44 3 = D9 3 from gm_setP_o (by omega)]; exact hd9, hu9.tr (gm_ptc_up (by omega) (by omega) (by omega) (by omega) (by omega)), Th46, ⟨_, _, _, _, Mh59⟩, Yh59'⟩) (by have := i91; omega)
                    · skip
                      refine q_blk (lv2 := [(0, vr n), (3, vi z41), (4, vi z44), (5, vi (D 3))]) (st2 := [vr n, vi (-4), vr n]) kX9_readPolygon_174 rfl ?_
                      refine q_gi eX9_readPolygon_178 fl_RX9_169 (Or.inl rfl) m0h51 (z := (st (i9 + 1))) rfl ?_
                      refine AQ.callVv (av := [vi (-4), vi (st (i9 + 1))]) (st := []) (c_X9_report_g Mh51 (k := (-4)) (a := (st (i9 + 1)))) lk_RX9_162 (by decide) rfl rfl Mh51.ob ⟨_, rfl, rfl⟩ (Nat.le_of_ble_eq_true rfl) eX9_readPolygon_181 (fun h62 e61 => ?_)
                      obtain ⟨Mh62, Fh62⟩ := e61
                      have Vh62 : am_f2 h h62 n := Yh51'.tr (Fh62.f2)
                      have hbh62 : h62.1 (n + 1) = some (100, 800, bf, am_N) := (Vh62.2 (n + 1) (by omega) (by omega)).trans hb
                      obtain ⟨m0h62, m1h62⟩ := id Mh62
                      have Yh62 : ((-4) : Int) ≠ 0 ∧ am_r (-4) := ⟨by decide, by decide, by decide⟩
                      refine q_blk (lv2 := [(0, vr n), (3, vi z41), (4, vi z44), (5, vi (D 3))]) (st2 := [vr n]) kX9_readPolygon_184 rfl ?_
                      refine q_Vi (av := []) (st := []) (c_X9_isGood_b Mh62 Yh62) lk_RX9_145 (by decide) rfl rfl Mh62.ob ⟨_, rfl, rfl⟩ (Nat.le_of_ble_eq_true rfl) eX9_readPolygon_185 (fun z63 e64 => ?_)
                      subst e64
                      refine AQ.of (AS.if_eq_t (tgt := 113) eX9_readPolygon_188 (by decide) ⟨by decide, by decide⟩ (by decide)) ?_
                      refine q_blk (lv2 := [(0, vr n), (3, vi z41), (4, vi z44), (5, vi (D 3))]) (st2 := [vr n]) kX9_readPolygon_113 rfl ?_
                      refine q_Vi (av := []) (st := []) (c_X9_isGood_b Mh62 Yh62) lk_RX9_145 (by decide) rfl rfl Mh62.ob ⟨_, rfl, rfl⟩ (Nat.le_of_ble_eq_true rfl) eX9_readPolygon_114 (fun z65 e66 => ?_)
                      subst e66
                      refine AQ.of (AS.if_eq_t (tgt := 209) eX9_readPolygon_117 (by decide) ⟨by decide, by decide⟩ (by decide)) ?_
                      refine q_blk (lv2 := [(0, vr n), (3, vi z41), (4, vi z44), (5, vi (D 3))]) (st2 := [vr n]) kX9_readPolygon_209 rfl ?_
                      refine q_Vi (av := []) (st := []) (c_X9_isGood_b Mh62 Yh62) lk_RX9_145 (by decide) rfl rfl Mh62.ob ⟨_, rfl, rfl⟩ (Nat.le_of_ble_eq_true rfl) eX9_readPolygon_210 (fun z67 e68 => ?_)
                      subst e68
                      refine AQ.of (AS.if_ne_f eX9_readPolygon_213 ⟨by decide, by decide⟩ (by decide) (by decide)) ?_
                      exact q_rv rfl eX9_readPolygon_216 ⟨rfl, Or.inr ⟨_, _, _, _, _, _, _, _, _, rG_4 (by omega) hrO hrP hoc (by rw [← hD1]; exact hR9.trans (rK_x (by omega) hk9 (rP_3 (by rw [← q0]; exact Kh43) (by rw [← q1]; exact Kh46)) (fun c => by have c2 := gm_rC_one ((gm_rC_i hV9 hs9 (by omega) (by omega)).mp c) Zh51; omega))), Yh62, Mh62⟩, Vh62⟩
                  · skip
                    have Yh46' : am_f2 h h46 n := Yh43'.tr Vh46
                    have hbh46 : h46.1 (n + 1) = some (100, 800, bf, am_N) := (Yh46'.2 (n + 1) (by omega) (by omega)).trans hb
                    obtain ⟨m0h46, m1h46⟩ := id Mh46
                    refine q_blk (lv2 := [(0, vr n), (3, vi z41), (4, vi z44), (5, vi (D 3))]) (st2 := [vr n]) kX9_readPolygon_153 rfl ?_
                    refine q_Vi (av := []) (st := []) (c_X9_isGood_b Mh46 Zh46) lk_RX9_145 (by decide) rfl rfl Mh46.ob ⟨_, rfl, rfl⟩ (Nat.le_of_ble_eq_true rfl) eX9_readPolygon_156 (fun z69 e70 => ?_)
                    subst e70
                    refine AQ.of (AS.if_eq_t (tgt := 184) eX9_readPolygon_159 (by decide) ⟨by decide, by decide⟩ (by decide)) ?_
                    refine q_blk (lv2 := [(0, vr n), (3, vi z41), (4, vi z44), (5, vi (D 3))]) (st2 := [vr n]) kX9_readPolygon_184 rfl ?_
                    refine q_Vi (av := []) (st := []) (c_X9_isGood_b Mh46 Zh46) lk_RX9_145 (by decide) rfl rfl Mh46.ob ⟨_, rfl, rfl⟩ (Nat.le_of_ble_eq_true rfl) eX9_readPolygon_185 (fun z71 e72 => ?_)
                    subst e72
                    refine AQ.of (AS.if_eq_t (tgt := 113) eX9_readPolygon_188 (by decide) ⟨by decide, by decide⟩ (by decide)) ?_
                    refine q_blk (lv2 := [(0, vr n), (3, vi z41), (4, vi z44), (5, vi (D 3))]) (st2 := [vr n]) kX9_readPolygon_113 rfl ?_
                    refine q_Vi (av := []) (st := []) (c_X9_isGood_b Mh46 Zh46) lk_RX9_145 (by decide) rfl rfl Mh46.ob ⟨_, rfl, rfl⟩ (Nat.le_of_ble_eq_true rfl) eX9_readPolygon_114 (fun z73 e74 => ?_)
                    subst e74
                    refine AQ.of (AS.if_eq_t (tgt := 209) eX9_readPolygon_117 (by decide) ⟨by decide, by decide⟩ (by decide)) ?_
                    refine q_blk (lv2 := [(0, vr n), (3, vi z41), (4, vi z44), (5, vi (D 3))]) (st2 := [vr n]) kX9_readPolygon_209 rfl ?_
                    refine q_Vi (av := []) (st := []) (c_X9_isGood_b Mh46 Zh46) lk_RX9_145 (by decide) rfl rfl Mh46.ob ⟨_, rfl, rfl⟩ (Nat.le_of_ble_eq_true rfl) eX9_readPolygon_210 (fun z75 e76 => ?_)
                    subst e76
                    refine AQ.of (AS.if_ne_f eX9_readPolygon_213 ⟨by decide, by decide⟩ (by decide) (by decide)) ?_
                    exact q_rv rfl eX9_readPolygon_216 ⟨rfl, Or.inr ⟨_, _, _, _, _, _, _, _, _, rG_4 (by omega) hrO hrP hoc (by rw [← hD1]; exact hR9.trans (rK_p (by omega) hk9 (rP_2 (by rw [← q0]; exact Kh43) (by rw [← q1]; exact Kh46)))), Zh46, Mh46⟩, Yh46'⟩
                · skip
                  have Yh43' : am_f2 h h43 n := Vh38.tr Vh43
                  have hbh43 : h43.1 (n + 1) = some (100, 800, bf, am_N) := (Yh43'.2 (n + 1) (by omega) (by omega)).trans hb
                  obtain ⟨m0h43, m1h43⟩ := id Mh43
                  refine q_blk (lv2 := [(0, vr n), (3, vi z41), (5, vi (D 3))]) (st2 := [vr n, vi 0, vr n]) kX9_readPolygon_141 rfl ?_
                  refine q_gr eX9_readPolygon_145 fl_RX9_17 (Or.inr ⟨_, rfl⟩) m0h43 rfl ?_
                  refine q_blk (lv2 := [(0, vr n), (3, vi z41), (5, vi (D 3))]) (st2 := [vi 1, vr (n + 2), vi 0, vr n]) kX9_readPolygon_148 rfl ?_
                  refine q_ia eX9_readPolygon_149 m1h43 (by decide) (by omega) (by omega) (z := (E9 1)) rfl ?_
                  refine q_Vi (av := [vi 0, vi (E9 1)]) (st := []) (c_X9_number_b Mh43 Zh43 (lo := 0) (hi := (E9 1))) lk_RX9_197 (by decide) rfl rfl Mh43.ob ⟨_, rfl, rfl⟩ (Nat.le_of_ble_eq_true rfl) eX9_readPolygon_150 (fun z77 e78 => ?_)
                  subst e78
                  refine q_blk (lv2 := [(0, vr n), (3, vi z41), (4, vi 0), (5, vi (D 3))]) (st2 := [vr n]) kX9_readPolygon_153 rfl ?_
                  refine q_Vi (av := []) (st := []) (c_X9_isGood_b Mh43 Zh43) lk_RX9_145 (by decide) rfl rfl Mh43.ob ⟨_, rfl, rfl⟩ (Nat.le_of_ble_eq_true rfl) eX9_readPolygon_156 (fun z79 e80 => ?_)
                  subst e80
                  refine AQ.of (AS.if_eq_t (tgt := 184) eX9_readPolygon_159 (by decide) ⟨by decide, by decide⟩ (by decide)) ?_
                  refine q_blk (lv2 := [(0, vr n), (3, vi z41), (4, vi 0), (5, vi (D 3))]) (st2 := [vr n]) kX9_readPolygon_184 rfl ?_
                  refine q_Vi (av := []) (st := []) (c_X9_isGood_b Mh43 Zh43) lk_RX9_145 (by decide) rfl rfl Mh43.ob ⟨_, rfl, rfl⟩ (Nat.le_of_ble_eq_true rfl) eX9_readPolygon_185 (fun z81 e82 => ?_)
                  subst e82
                  refine AQ.of (AS.if_eq_t (tgt := 113) eX9_readPolygon_188 (by decide) ⟨by decide, by decide⟩ (by decide)) ?_
                  refine q_blk (lv2 := [(0, vr n), (3, vi z41), (4, vi 0), (5, vi (D 3))]) (st2 := [vr n]) kX9_readPolygon_113 rfl ?_
                  refine q_Vi (av := []) (st := []) (c_X9_isGood_b Mh43 Zh43) lk_RX9_145 (by decide) rfl rfl Mh43.ob ⟨_, rfl, rfl⟩ (Nat.le_of_ble_eq_true rfl) eX9_readPolygon_114 (fun z83 e84 => ?_)
                  subst e84
                  refine AQ.of (AS.if_eq_t (tgt := 209) eX9_readPolygon_117 (by decide) ⟨by decide, by decide⟩ (by decide)) ?_
                  refine q_blk (lv2 := [(0, vr n), (3, vi z41), (4, vi 0), (5, vi (D 3))]) (st2 := [vr n]) kX9_readPolygon_209 rfl ?_
                  refine q_Vi (av := []) (st := []) (c_X9_isGood_b Mh43 Zh43) lk_RX9_145 (by decide) rfl rfl Mh43.ob ⟨_, rfl, rfl⟩ (Nat.le_of_ble_eq_true rfl) eX9_readPolygon_210 (fun z85 e86 => ?_)
                  subst e86
                  refine AQ.of (AS.if_ne_f eX9_readPolygon_213 ⟨by decide, by decide⟩ (by decide) (by decide)) ?_
                  exact q_rv rfl eX9_readPolygon_216 ⟨rfl, Or.inr ⟨_, _, _, _, _, _, _, _, _, rG_4 (by omega) hrO hrP hoc (by rw [← hD1]; exact hR9.trans (rK_p (by omega) hk9 (rP_1 (by rw [← q0]; exact Kh43)))), Zh43, Mh43⟩, Yh43'⟩
              · skip
                refine AQ.of (AS.if_eq_t (tgt := 209) eX9_readPolygon_127 (by decide) ⟨by decide, by decide⟩ (by decide)) ?_
                refine q_blk (lv2 := [(0, vr n), (5, vi (D 3))]) (st2 := [vr n]) kX9_readPolygon_209 rfl ?_
                refine q_Vi (av := []) (st := []) (c_X9_isGood_g Mh38) lk_RX9_145 (by decide) rfl rfl Mh38.ob ⟨_, rfl, rfl⟩ (Nat.le_of_ble_eq_true rfl) eX9_readPolygon_210 (fun z87 e88 => ?_)
                subst e88
                refine AQ.of (AS.if_ne_t (tgt := 217) eX9_readPolygon_213 (by decide) ⟨by decide, by decide⟩ (by decide)) ?_
                refine q_blk (lv2 := [(0, vr n), (5, vi (D 3))]) (st2 := [vr n]) kX9_readPolygon_217 rfl ?_
                refine AQ.callVi (av := []) (st := []) (c_X9_next Mh38 hbh38 hl hx hg Ph38) lk_RX9_149 (by decide) rfl rfl Mh38.ob ⟨_, rfl, rfl⟩ (Nat.le_of_ble_eq_true rfl) eX9_readPolygon_218 (fun z89 h91 e90 => ?_)
                obtain ⟨rfl, Mh91, Fh91⟩ := e90
                have Vh91 : am_f2 h h91 n := Vh38.tr (Fh91.f2)
                have hbh91 : h91.1 (n + 1) = some (100, 800, bf, am_N) := (Vh91.2 (n + 1) (by omega) (by omega)).trans hb
                obtain ⟨m0h91, m1h91⟩ := id Mh91
                have Ph91 := Ph38.at hg hl.1
                refine q_blk (lv2 := [(0, vr n), (5, vi (D 3))]) (st2 := [vi 59, vi (gm_T bf tl (st i9))]) kX9_readPolygon_221 rfl ?_
                refine AQ.ic_eq (tgt := 239) eX9_readPolygon_223 (by decide) (by first | assumption | exact ⟨by omega, by omega⟩) ⟨by decide, by decide⟩ (fun br92 => ?_) (fun br92 => ?_)
                · skip
                  have k59 : kd i9 = 59 := (hch9.2.2.2.2.2 59 (by omega)).mpr (by omega)
                  refine q_blk (lv2 := [(0, vr n), (5, vi (D 3))]) (st2 := [vi (D 3), vr n]) kX9_readPolygon_239 rfl ?_
                  refine AQ.callVi (av := [vi (D 3)]) (st := []) (c_X9_closeReason Mh91 hE9 (p := (D 3)) (by omega) (by omega)) lk_RX9_223 (by decide) rfl rfl Mh91.ob ⟨_, rfl, rfl⟩ (Nat.le_of_ble_eq_true rfl) eX9_readPolygon_242 (fun z93 h95 e94 => ?_)
                  obtain ⟨Zh95, ah95, bh95, ch95, dh95, Mh95, Fh95⟩ := e94
                  have zrh95 := gm_rL_r Zh95
                  have Yh95' : am_f2 h h95 n := Vh91.tr (Fh95.f2)
                  have hbh95 : h95.1 (n + 1) = some (100, 800, bf, am_N) := (Yh95'.2 (n + 1) (by omega) (by omega)).trans hb
                  obtain ⟨m0h95, m1h95⟩ := id Mh95
                  refine AQ.if_eq (tgt := 258) eX9_readPolygon_245 (by decide) (by first | assumption | exact ⟨by omega, by omega⟩) (fun br96 => ?_) (fun br96 => ?_)
                  · skip
                    have L0 := Zh95
                    rw [show z93 = 0 by omega] at L0
                    have L9 := (gm_rL_i hV9 hs9 (p := D 3) (by omega) (by omega)).mpr L0
                    have l9 := gm_rL_0 L9
                    refine q_blk (lv2 := [(0, vr n), (5, vi (D 3))]) (st2 := [vr n]) kX9_readPolygon_258 rfl ?_
                    refine q_gr eX9_readPolygon_259 fl_RX9_17 (Or.inr ⟨_, rfl⟩) m0h95 rfl ?_
                    refine q_blk (lv2 := [(0, vr n), (5, vi (D 3))]) (st2 := [vi (D 3), vr (n + 2)]) kX9_readPolygon_262 rfl ?_
                    refine q_Si (av := [vi (D 3)]) (st := [vr (n + 2)]) c_X9_at lk_RX9_35 (by decide) rfl rfl (Nat.le_of_ble_eq_true rfl) eX9_readPolygon_264 (fun z97 e98 => ?_)
                    subst e98
                    refine q_blk (lv2 := [(0, vr n), (5, vi (D 3))]) (st2 := [vi 1, vi ((66 + (27 * (D 3))) + 2), vr (n + 2)]) kX9_readPolygon_267 rfl ?_
                    refine q_is eX9_readPolygon_270 m1h95 (by omega) (by omega) (fun h99 e100 => ?_)
                    have k101 := (am_ne e100 n (by omega)).trans m0h95
                    have k102 := am_at e100
                    exact q_rv rfl eX9_readPolygon_271 ⟨rfl, Or.inl ⟨gm_clP D9 (D 3), _, i9, _, _, _, _, _, _, rG_5 (by omega) hrO hrP hoc (by rw [← hD1]; exact hR9.trans (rK_end (Or.inr (fun c => by have := hch9.2.2.2.1.mp c; omega)))) k59 L9, k59, by omega, (gm_clP_s hV9 hs9 (by omega) (by omega)).tr (gm_cl_same (p := D 3) hE9 (by omega) (by omega) (by omega)).1, gm_clP_vd hV9 (by omega) (by omega) l9.2, hu9.tr (gm_cl_same (p := D 3) hE9 (by omega) (by omega) (by omega)).2, Ph91, ⟨k101, k102⟩⟩, (Yh95').tr ((am_fr.st e100 (by omega) (by omega) : am_fr _ _ (n + 2) (n + 3)).f2d)⟩
                  · skip
                    refine q_blk (lv2 := [(0, vr n), (5, vi (D 3))]) (st2 := [vr n, vi (-4), vr n]) kX9_readPolygon_248 rfl ?_
                    refine q_gi eX9_readPolygon_252 fl_RX9_133 (Or.inl rfl) m0h95 (z := (st i9)) rfl ?_
                    refine AQ.callVv (av := [vi (-4), vi (st i9)]) (st := []) (c_X9_report_g Mh95 (k := (-4)) (a := (st i9))) lk_RX9_162 (by decide) rfl rfl Mh95.ob ⟨_, rfl, rfl⟩ (Nat.le_of_ble_eq_true rfl) eX9_readPolygon_255 (fun h105 e104 => ?_)
                    obtain ⟨Mh105, Fh105⟩ := e104
                    have Vh105 : am_f2 h h105 n := Yh95'.tr (Fh105.f2)
                    have hbh105 : h105.1 (n + 1) = some (100, 800, bf, am_N) := (Vh105.2 (n + 1) (by omega) (by omega)).trans hb
                    obtain ⟨m0h105, m1h105⟩ := id Mh105
                    have Yh105 : ((-4) : Int) ≠ 0 ∧ am_r (-4) := ⟨by decide, by decide, by decide⟩
                    refine q_blk (lv2 := [(0, vr n), (5, vi (D 3))]) (st2 := [vr n]) kX9_readPolygon_258 rfl ?_
                    refine q_gr eX9_readPolygon_259 fl_RX9_17 (Or.inr ⟨_, rfl⟩) m0h105 rfl ?_
                    refine q_blk (lv2 := [(0, vr n), (5, vi (D 3))]) (st2 := [vi (D 3), vr (n + 2)]) kX9_readPolygon_262 rfl ?_
                    refine q_Si (av := [vi (D 3)]) (st := [vr (n + 2)]) c_X9_at lk_RX9_35 (by decide) rfl rfl (Nat.le_of_ble_eq_true rfl) eX9_readPolygon_264 (fun z106 e107 => ?_)
                    subst e107
                    refine q_blk (lv2 := [(0, vr n), (5, vi (D 3))]) (st2 := [vi 1, vi ((66 + (27 * (D 3))) + 2), vr (n + 2)]) kX9_readPolygon_267 rfl ?_
                    refine q_is eX9_readPolygon_270 m1h105 (by omega) (by omega) (fun h108 e109 => ?_)
                    have k110 := (am_ne e109 n (by omega)).trans m0h105
                    have k111 := am_at e109
                    exact q_rv rfl eX9_readPolygon_271 ⟨rfl, Or.inr ⟨_, _, _, _, _, _, _, _, _, rG_6 (by omega) hrO hrP hoc (by rw [← hD1]; exact hR9.trans (rK_end (Or.inr (fun c => by have := hch9.2.2.2.1.mp c; omega)))) k59 (fun c => by have c2 := gm_rL_one ((gm_rL_i hV9 hs9 (by omega) (by omega)).mp c) Zh95; omega), Yh105, ⟨k110, k111⟩⟩, (Vh105).tr ((am_fr.st e109 (by omega) (by omega) : am_fr _ _ (n + 2) (n + 3)).f2d)⟩
                · skip
                  refine q_blk (lv2 := [(0, vr n), (5, vi (D 3))]) (st2 := [vr n, vi (-2), vr n]) kX9_readPolygon_226 rfl ?_
                  refine q_gi eX9_readPolygon_230 fl_RX9_133 (Or.inl rfl) m0h91 (z := (st i9)) rfl ?_
                  refine AQ.callVv (av := [vi (-2), vi (st i9)]) (st := []) (c_X9_report_g Mh91 (k := (-2)) (a := (st i9))) lk_RX9_162 (by decide) rfl rfl Mh91.ob ⟨_, rfl, rfl⟩ (Nat.le_of_ble_eq_true rfl) eX9_readPolygon_233 (fun h114 e113 => ?_)
                  obtain ⟨Mh114, Fh114⟩ := e113
                  have Vh114 : am_f2 h h114 n := Vh91.tr (Fh114.f2)
                  have hbh114 : h114.1 (n + 1) = some (100, 800, bf, am_N) := (Vh114.2 (n + 1) (by omega) (by omega)).trans hb
                  obtain ⟨m0h114, m1h114⟩ := id Mh114
                  have Yh114 : ((-2) : Int) ≠ 0 ∧ am_r (-2) := ⟨by decide, by decide, by decide⟩
                  refine q_goto (tgt := 258) eX9_readPolygon_236 (by decide) ?_
                  refine q_blk (lv2 := [(0, vr n), (5, vi (D 3))]) (st2 := [vr n]) kX9_readPolygon_258 rfl ?_
                  refine q_gr eX9_readPolygon_259 fl_RX9_17 (Or.inr ⟨_, rfl⟩) m0h114 rfl ?_
                  refine q_blk (lv2 := [(0, vr n), (5, vi (D 3))]) (st2 := [vi (D 3), vr (n + 2)]) kX9_readPolygon_262 rfl ?_
                  refine q_Si (av := [vi (D 3)]) (st := [vr (n + 2)]) c_X9_at lk_RX9_35 (by decide) rfl rfl (Nat.le_of_ble_eq_true rfl) eX9_readPolygon_264 (fun z115 e116 => ?_)
                  subst e116
                  refine q_blk (lv2 := [(0, vr n), (5, vi (D 3))]) (st2 := [vi 1, vi ((66 + (27 * (D 3))) + 2), vr (n + 2)]) kX9_readPolygon_267 rfl ?_
                  refine q_is eX9_readPolygon_270 m1h114 (by omega) (by omega) (fun h117 e118 => ?_)
                  have k119 := (am_ne e118 n (by omega)).trans m0h114
                  have k120 := am_at e118
                  exact q_rv rfl eX9_readPolygon_271 ⟨rfl, Or.inr ⟨_, _, _, _, _, _, _, _, _, rG_7 (by omega) hrO hrP hoc (by rw [← hD1]; exact hR9.trans (rK_end (Or.inr (fun c => by have := hch9.2.2.2.1.mp c; omega)))) (fun c => by have := (hch9.2.2.2.2.2 59 (by omega)).mp c; omega), Yh114, ⟨k119, k120⟩⟩, (Vh114).tr ((am_fr.st e118 (by omega) (by omega) : am_fr _ _ (n + 2) (n + 3)).f2d)⟩
        · skip
          have Yh10' : am_f2 h h10 n := Yh7'.tr Vh10
          have hbh10 : h10.1 (n + 1) = some (100, 800, bf, am_N) := (Yh10'.2 (n + 1) (by omega) (by omega)).trans hb
          obtain ⟨m0h10, m1h10⟩ := id Mh10
          refine q_blk (lv2 := [(0, vr n), (1, vi (st i)), (2, vi z2), (3, vi z5), (4, vi z8)]) (st2 := [vr n]) kX9_readPolygon_48 rfl ?_
          refine q_Vi (av := []) (st := []) (c_X9_isGood_b Mh10 Zh10) lk_RX9_145 (by decide) rfl rfl Mh10.ob ⟨_, rfl, rfl⟩ (Nat.le_of_ble_eq_true rfl) eX9_readPolygon_51 (fun z121 e122 => ?_)
          subst e122
          refine AQ.of (AS.if_eq_t (tgt := 87) eX9_readPolygon_54 (by decide) ⟨by decide, by decide⟩ (by decide)) ?_
          refine q_blk (lv2 := [(0, vr n), (1, vi (st i)), (2, vi z2), (3, vi z5), (4, vi z8)]) (st2 := [vr n]) kX9_readPolygon_87 rfl ?_
          refine q_Vi (av := []) (st := []) (c_X9_isGood_b Mh10 Zh10) lk_RX9_145 (by decide) rfl rfl Mh10.ob ⟨_, rfl, rfl⟩ (Nat.le_of_ble_eq_true rfl) eX9_readPolygon_88 (fun z123 e124 => ?_)
          subst e124
          refine AQ.of (AS.if_ne_f eX9_readPolygon_91 ⟨by decide, by decide⟩ (by decide) (by decide)) ?_
          exact q_rv rfl eX9_readPolygon_94 ⟨rfl, Or.inr ⟨_, _, _, _, _, _, _, _, _, rG_2 (by omega) Kh4 (rP_2 (by rw [← e0]; exact Kh7) (by rw [← e1]; exact Kh10)), Zh10, Mh10⟩, Yh10'⟩
      · skip
        have Yh7' : am_f2 h h7 n := Yh4'.tr Vh7
        have hbh7 : h7.1 (n + 1) = some (100, 800, bf, am_N) := (Yh7'.2 (n + 1) (by omega) (by omega)).trans hb
        obtain ⟨m0h7, m1h7⟩ := id Mh7
        refine q_blk (lv2 := [(0, vr n), (1, vi (st i)), (2, vi z2), (3, vi z5)]) (st2 := [vr n, vi 0, vr n]) kX9_readPolygon_36 rfl ?_
        refine q_gr eX9_readPolygon_40 fl_RX9_17 (Or.inr ⟨_, rfl⟩) m0h7 rfl ?_
        refine q_blk (lv2 := [(0, vr n), (1, vi (st i)), (2, vi z2), (3, vi z5)]) (st2 := [vi 1, vr (n + 2), vi 0, vr n]) kX9_readPolygon_43 rfl ?_
        refine q_ia eX9_readPolygon_44 m1h7 (by decide) (by omega) (by omega) (z := (E 1)) rfl ?_
        refine q_Vi (av := [vi 0, vi (E 1)]) (st := []) (c_X9_number_b Mh7 Zh7 (lo := 0) (hi := (E 1))) lk_RX9_197 (by decide) rfl rfl Mh7.ob ⟨_, rfl, rfl⟩ (Nat.le_of_ble_eq_true rfl) eX9_readPolygon_45 (fun z125 e126 => ?_)
        subst e126
        refine q_blk (lv2 := [(0, vr n), (1, vi (st i)), (2, vi z2), (3, vi z5), (4, vi 0)]) (st2 := [vr n]) kX9_readPolygon_48 rfl ?_
        refine q_Vi (av := []) (st := []) (c_X9_isGood_b Mh7 Zh7) lk_RX9_145 (by decide) rfl rfl Mh7.ob ⟨_, rfl, rfl⟩ (Nat.le_of_ble_eq_true rfl) eX9_readPolygon_51 (fun z127 e128 => ?_)
        subst e128
        refine AQ.of (AS.if_eq_t (tgt := 87) eX9_readPolygon_54 (by decide) ⟨by decide, by decide⟩ (by decide)) ?_
        refine q_blk (lv2 := [(0, vr n), (1, vi (st i)), (2, vi z2), (3, vi z5), (4, vi 0)]) (st2 := [vr n]) kX9_readPolygon_87 rfl ?_
        refine q_Vi (av := []) (st := []) (c_X9_isGood_b Mh7 Zh7) lk_RX9_145 (by decide) rfl rfl Mh7.ob ⟨_, rfl, rfl⟩ (Nat.le_of_ble_eq_true rfl) eX9_readPolygon_88 (fun z129 e130 => ?_)
        subst e130
        refine AQ.of (AS.if_ne_f eX9_readPolygon_91 ⟨by decide, by decide⟩ (by decide) (by decide)) ?_
        exact q_rv rfl eX9_readPolygon_94 ⟨rfl, Or.inr ⟨_, _, _, _, _, _, _, _, _, rG_2 (by omega) Kh4 (rP_1 (by rw [← e0]; exact Kh7)), Zh7, Mh7⟩, Yh7'⟩
    · skip
      have Yh4' : am_f2 h h4 n := Vh4
      have hbh4 : h4.1 (n + 1) = some (100, 800, bf, am_N) := (Yh4'.2 (n + 1) (by omega) (by omega)).trans hb
      obtain ⟨m0h4, m1h4⟩ := id Mh4
      refine q_blk (lv2 := [(0, vr n), (1, vi (st i)), (2, vi z2)]) (st2 := [vr n, vi 0, vr n]) kX9_readPolygon_24 rfl ?_
      refine q_gr eX9_readPolygon_28 fl_RX9_17 (Or.inr ⟨_, rfl⟩) m0h4 rfl ?_
      refine q_blk (lv2 := [(0, vr n), (1, vi (st i)), (2, vi z2)]) (st2 := [vi 0, vr (n + 2), vi 0, vr n]) kX9_readPolygon_31 rfl ?_
      refine q_ia eX9_readPolygon_32 m1h4 (by decide) (by omega) (by omega) (z := (E 0)) rfl ?_
      refine q_Vi (av := [vi 0, vi (E 0)]) (st := []) (c_X9_number_b Mh4 Zh4 (lo := 0) (hi := (E 0))) lk_RX9_197 (by decide) rfl rfl Mh4.ob ⟨_, rfl, rfl⟩ (Nat.le_of_ble_eq_true rfl) eX9_readPolygon_33 (fun z131 e132 => ?_)
      subst e132
      refine q_blk (lv2 := [(0, vr n), (1, vi (st i)), (2, vi z2), (3, vi 0)]) (st2 := [vr n, vi 0, vr n]) kX9_readPolygon_36 rfl ?_
      refine q_gr eX9_readPolygon_40 fl_RX9_17 (Or.inr ⟨_, rfl⟩) m0h4 rfl ?_
      refine q_blk (lv2 := [(0, vr n), (1, vi (st i)), (2, vi z2), (3, vi 0)]) (st2 := [vi 1, vr (n + 2), vi 0, vr n]) kX9_readPolygon_43 rfl ?_
      refine q_ia eX9_readPolygon_44 m1h4 (by decide) (by omega) (by omega) (z := (E 1)) rfl ?_
      refine q_Vi (av := [vi 0, vi (E 1)]) (st := []) (c_X9_number_b Mh4 Zh4 (lo := 0) (hi := (E 1))) lk_RX9_197 (by decide) rfl rfl Mh4.ob ⟨_, rfl, rfl⟩ (Nat.le_of_ble_eq_true rfl) eX9_readPolygon_45 (fun z133 e134 => ?_)
      subst e134
      refine q_blk (lv2 := [(0, vr n), (1, vi (st i)), (2, vi z2), (3, vi 0), (4, vi 0)]) (st2 := [vr n]) kX9_readPolygon_48 rfl ?_
      refine q_Vi (av := []) (st := []) (c_X9_isGood_b Mh4 Zh4) lk_RX9_145 (by decide) rfl rfl Mh4.ob ⟨_, rfl, rfl⟩ (Nat.le_of_ble_eq_true rfl) eX9_readPolygon_51 (fun z135 e136 => ?_)
      subst e136
      refine AQ.of (AS.if_eq_t (tgt := 87) eX9_readPolygon_54 (by decide) ⟨by decide, by decide⟩ (by decide)) ?_
      refine q_blk (lv2 := [(0, vr n), (1, vi (st i)), (2, vi z2), (3, vi 0), (4, vi 0)]) (st2 := [vr n]) kX9_readPolygon_87 rfl ?_
      refine q_Vi (av := []) (st := []) (c_X9_isGood_b Mh4 Zh4) lk_RX9_145 (by decide) rfl rfl Mh4.ob ⟨_, rfl, rfl⟩ (Nat.le_of_ble_eq_true rfl) eX9_readPolygon_88 (fun z137 e138 => ?_)
      subst e138
      refine AQ.of (AS.if_ne_f eX9_readPolygon_91 ⟨by decide, by decide⟩ (by decide) (by decide)) ?_
      exact q_rv rfl eX9_readPolygon_94 ⟨rfl, Or.inr ⟨_, _, _, _, _, _, _, _, _, rG_1 (by omega) Kh4, Zh4, Mh4⟩, Yh4'⟩
  · skip
    refine q_blk (lv2 := [(0, vr n), (1, vi (st i))]) (st2 := [vi (st i), vi (-5), vr n]) kX9_readPolygon_11 rfl ?_
    refine AQ.callVv (av := [vi (-5), vi (st i)]) (st := []) (c_X9_report_g hm (k := (-5)) (a := (st i))) lk_RX9_162 (by decide) rfl rfl hm.ob ⟨_, rfl, rfl⟩ (Nat.le_of_ble_eq_true rfl) eX9_readPolygon_15 (fun h141 e140 => ?_)
    obtain ⟨Mh141, Fh141⟩ := e140
    have Vh141 : am_f2 h h141 n := Fh141.f2
    have hbh141 : h141.1 (n + 1) = some (100, 800, bf, am_N) := (Vh141.2 (n + 1) (by omega) (by omega)).trans hb
    obtain ⟨m0h141, m1h141⟩ := id Mh141
    have Yh141 : ((-5) : Int) ≠ 0 ∧ am_r (-5) := ⟨by decide, by decide, by decide⟩
    refine q_blk (lv2 := [(0, vr n), (1, vi (st i))]) (st2 := [vi 3, vi 0, vr n]) kX9_readPolygon_18 rfl ?_
    refine q_Vi (av := [vi 0, vi 3]) (st := []) (c_X9_number_b Mh141 Yh141 (lo := 0) (hi := 3)) lk_RX9_197 (by decide) rfl rfl Mh141.ob ⟨_, rfl, rfl⟩ (Nat.le_of_ble_eq_true rfl) eX9_readPolygon_21 (fun z142 e143 => ?_)
    subst e143
    refine q_blk (lv2 := [(0, vr n), (1, vi (st i)), (2, vi 0)]) (st2 := [vr n, vi 0, vr n]) kX9_readPolygon_24 rfl ?_
    refine q_gr eX9_readPolygon_28 fl_RX9_17 (Or.inr ⟨_, rfl⟩) m0h141 rfl ?_
    refine q_blk (lv2 := [(0, vr n), (1, vi (st i)), (2, vi 0)]) (st2 := [vi 0, vr (n + 2), vi 0, vr n]) kX9_readPolygon_31 rfl ?_
    refine q_ia eX9_readPolygon_32 m1h141 (by decide) (by omega) (by omega) (z := (E 0)) rfl ?_
    refine q_Vi (av := [vi 0, vi (E 0)]) (st := []) (c_X9_number_b Mh141 Yh141 (lo := 0) (hi := (E 0))) lk_RX9_197 (by decide) rfl rfl Mh141.ob ⟨_, rfl, rfl⟩ (Nat.le_of_ble_eq_true rfl) eX9_readPolygon_33 (fun z144 e145 => ?_)
    subst e145
    refine q_blk (lv2 := [(0, vr n), (1, vi (st i)), (2, vi 0), (3, vi 0)]) (st2 := [vr n, vi 0, vr n]) kX9_readPolygon_36 rfl ?_
    refine q_gr eX9_readPolygon_40 fl_RX9_17 (Or.inr ⟨_, rfl⟩) m0h141 rfl ?_
    refine q_blk (lv2 := [(0, vr n), (1, vi (st i)), (2, vi 0), (3, vi 0)]) (st2 := [vi 1, vr (n + 2), vi 0, vr n]) kX9_readPolygon_43 rfl ?_
    refine q_ia eX9_readPolygon_44 m1h141 (by decide) (by omega) (by omega) (z := (E 1)) rfl ?_
    refine q_Vi (av := [vi 0, vi (E 1)]) (st := []) (c_X9_number_b Mh141 Yh141 (lo := 0) (hi := (E 1))) lk_RX9_197 (by decide) rfl rfl Mh141.ob ⟨_, rfl, rfl⟩ (Nat.le_of_ble_eq_true rfl) eX9_readPolygon_45 (fun z146 e147 => ?_)
    subst e147
    refine q_blk (lv2 := [(0, vr n), (1, vi (st i)), (2, vi 0), (3, vi 0), (4, vi 0)]) (st2 := [vr n]) kX9_readPolygon_48 rfl ?_
    refine q_Vi (av := []) (st := []) (c_X9_isGood_b Mh141 Yh141) lk_RX9_145 (by decide) rfl rfl Mh141.ob ⟨_, rfl, rfl⟩ (Nat.le_of_ble_eq_true rfl) eX9_readPolygon_51 (fun z148 e149 => ?_)
    subst e149
    refine AQ.of (AS.if_eq_t (tgt := 87) eX9_readPolygon_54 (by decide) ⟨by decide, by decide⟩ (by decide)) ?_
    refine q_blk (lv2 := [(0, vr n), (1, vi (st i)), (2, vi 0), (3, vi 0), (4, vi 0)]) (st2 := [vr n]) kX9_readPolygon_87 rfl ?_
    refine q_Vi (av := []) (st := []) (c_X9_isGood_b Mh141 Yh141) lk_RX9_145 (by decide) rfl rfl Mh141.ob ⟨_, rfl, rfl⟩ (Nat.le_of_ble_eq_true rfl) eX9_readPolygon_88 (fun z150 e151 => ?_)
    subst e151
    refine AQ.of (AS.if_ne_f eX9_readPolygon_91 ⟨by decide, by decide⟩ (by decide) (by decide)) ?_
    exact q_rv rfl eX9_readPolygon_94 ⟨rfl, Or.inr ⟨_, _, _, _, _, _, _, _, _, rG_0 (by omega), Yh141, Mh141⟩, Vh141⟩
