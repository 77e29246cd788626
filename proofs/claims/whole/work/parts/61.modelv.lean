/-! CornerClaimsModel: what changes it. -/
theorem gm_if_1 {c : Int → Int} {p k : Int} : gm_if c p (fun _ => 1) k = if c k = p then 1 else 0 := rfl
theorem gm_arD_s {D E : Int → Int} (g : gm_same D E) {p : Int} (p0 : 0 ≤ p) (p1 : p < D 3) : gm_arD E p = gm_arD D p := gm_arD_c (g.sp p0 p1)

set_option maxHeartbeats 1000000 in
theorem c_X9_begin {w : am_w} {h : AH} {n : Nat} {th bl eo ud : Int} {bf : Int → Int} {rw : Int → Int → Int} {D : Int → Int} (hA : MA h n th bl eo ud bf rw D) (hD : VD D) (hu : 0 ≤ ud ∧ ud ≤ 8) {cm : Int → Int} (hM : CMS D cm) {pl x y : Int} (r_pl : am_r pl) (r_x : am_r x) (r_y : am_r y)  : AE w m_X9_begin 9 [vr n, vi pl, vi x, vi y] h (am_int (fun z h1 => (∃ th', gm_tx (fun k => if k = 0 then 1 else 2) (gA_pl pl (gA_xy D x y (gA_f D gm_F))) th' ∧ th' ≠ 0 ∧ MA h1 n th' bl eo ud bf rw D ∧ am_fr h h1 n (n + 14)) ∨ (((0 ≤ pl ∧ pl ≤ 3) ∧ ((0 ≤ x ∧ x ≤ D 0) ∧ (0 ≤ y ∧ y ≤ D 1)) ∧ D 3 < 6) ∧ ∃ D2 D' cm' ud' rw', gR_beg D pl x y z D2 ∧ gm_same D2 D' ∧ gm_up D D' ∧ CMS D' cm' ∧ PU ud rw D ud' rw' ∧ (1 ≤ ud' ∧ ud' ≤ 8) ∧ MA h1 n 0 bl eo ud' bf rw' D' ∧ am_fr h h1 n (n + 14)))) := by
  refine AE.of wf_X9_begin (Nat.le_of_ble_eq_true rfl) (am_ok_i) ?_
  obtain ⟨tl, ps, er, ea, g0, g1, g2, g3, ns, ne, se, od, sk, hm, hR, hK⟩ := hA
  obtain ⟨m0, m1⟩ := id hm
  have d0 := hD.1
  have d1 := hD.2.1
  have d2 := hD.2.2.1
  have d3 := hD.2.2.2.1
  refine q_blk (lv2 := [(0, vr n), (1, vi pl), (2, vi x), (3, vi y)]) (st2 := [vi 0, vr n]) kX9_begin_0 rfl ?_
  refine q_pi eX9_begin_2 fl_RX9_32 (fun q hq => by cases hq; exact Or.inl rfl) (Or.inl rfl) m0 (Nat.le_of_ble_eq_true rfl) (l2 := [0, 0, bl, tl, ps, er, ea, eo, 0, 0, 0, ud, g0, g1, g2, g3, ns, ne, se, 0]) rfl (fun h1 e2 => ?_)
  have k3 := am_at e2
  have k4 := (am_ne e2 (n + 2) (by omega)).trans m1
  have k5 := (am_ne e2 (n + 13) (by omega)).trans hK
  have M5 : MM h1 n 0 bl tl ps er ea eo ud g0 g1 g2 g3 ns ne se D := ⟨k3, k4⟩
  have F5 : am_fr h h1 n (n + 1) := am_fr.st e2 (by omega) (by omega)
  have Vh1 : am_fr h h1 n (n + 14) := am_fr.mo F5 (by omega) (by omega)
  have Rh1 := hR.kept F5 (by omega)
  have Kh1 := (F5.2 (n + 13) (by omega)).trans hK
  obtain ⟨m0h1, m1h1⟩ := id M5
  refine q_blk (lv2 := [(0, vr n), (1, vi pl), (2, vi x), (3, vi y)]) (st2 := [vi 3, vi 0, vi pl, vr n]) kX9_begin_5 rfl ?_
  refine q_Si (av := [vi pl, vi 0, vi 3]) (st := [vr n]) (c_X9_in (by first | assumption | exact ⟨by omega, by omega⟩) (by first | assumption | exact ⟨by omega, by omega⟩) (by first | assumption | exact ⟨by omega, by omega⟩)) lk_RX9_57 (by decide) rfl rfl (Nat.le_of_ble_eq_true rfl) eX9_begin_9 (fun z6 e7 => ?_)
  rcases e7 with ⟨rfl, e7⟩ | ⟨rfl, e7⟩
  · skip
    refine AQ.of (AS.if_ne_t (tgt := 19) eX9_begin_12 (by decide) ⟨by decide, by decide⟩ (by decide)) ?_
    refine q_blk (lv2 := [(0, vr n), (1, vi pl), (2, vi x), (3, vi y)]) (st2 := [vi 0, vr n]) kX9_begin_19 rfl ?_
    refine q_blk (lv2 := [(0, vr n), (1, vi pl), (2, vi x), (3, vi y)]) (st2 := [vi 1, vi 0, vr n]) kX9_begin_20 rfl ?_
    refine AQ.callVi (av := [vi 0, vi 1]) (st := []) (c_X9_fails M5 (c := 0) (e := 1) (by decide) (by omega)) lk_RX9_241 (by decide) rfl rfl M5.ob ⟨_, rfl, rfl⟩ (Nat.le_of_ble_eq_true rfl) eX9_begin_21 (fun z8 h10 e9 => ?_)
    rcases e9 with ⟨⟨rfl, Bh10⟩ | ⟨rfl, Bh10⟩, ⟨thh10, Th10, Mh10⟩, Fh10⟩
    · skip
      obtain rfl := Th10.t
      have Vh10 : am_fr h h10 n (n + 14) := am_fr.tr Vh1 (am_fr.mo Fh10 (by omega) (by omega))
      have Rh10 := Rh1.kept Fh10 (by omega)
      have Kh10 := (Fh10.2 (n + 13) (by omega)).trans Kh1
      obtain ⟨m0h10, m1h10⟩ := id Mh10
      refine AQ.of (AS.if_ne_t (tgt := 61) eX9_begin_24 (by decide) ⟨by decide, by decide⟩ (by decide)) ?_
      refine q_blk (lv2 := [(0, vr n), (1, vi pl), (2, vi x), (3, vi y)]) (st2 := [vi 0]) kX9_begin_61 rfl ?_
      exact q_ri rfl eX9_begin_62 ⟨0, rfl, Or.inl ⟨1, ⟨0, Or.inl ⟨by omega, rfl⟩, rfl⟩, by decide, ⟨_, _, _, _, _, _, _, _, _, _, _, _, _, Mh10, Rh10, Kh10⟩, Vh10⟩⟩
    · skip
      obtain rfl := Th10.f
      have Vh10 : am_fr h h10 n (n + 14) := am_fr.tr Vh1 (am_fr.mo Fh10 (by omega) (by omega))
      have Rh10 := Rh1.kept Fh10 (by omega)
      have Kh10 := (Fh10.2 (n + 13) (by omega)).trans Kh1
      obtain ⟨m0h10, m1h10⟩ := id Mh10
      refine AQ.of (AS.if_ne_f eX9_begin_24 ⟨by decide, by decide⟩ (by decide) (by decide)) ?_
      refine q_blk (lv2 := [(0, vr n), (1, vi pl), (2, vi x), (3, vi y)]) (st2 := [vi 1, vi y, vi x, vr n]) kX9_begin_27 rfl ?_
      refine AQ.callVi (av := [vi x, vi y, vi 1]) (st := []) (c_X9_noPoint Mh10 hD (x := x) (y := y) (e := 1) (by first | assumption | exact ⟨by omega, by omega⟩) (by first | assumption | exact ⟨by omega, by omega⟩) (by omega)) lk_RX9_306 (by decide) rfl rfl Mh10.ob ⟨_, rfl, rfl⟩ (Nat.le_of_ble_eq_true rfl) eX9_begin_31 (fun z11 h13 e12 => ?_)
      rcases e12 with ⟨⟨rfl, Bh13⟩ | ⟨rfl, Bh13⟩, ⟨thh13, Th13, Mh13⟩, Fh13⟩
      · skip
        obtain rfl := Th13.t
        have Vh13 : am_fr h h13 n (n + 14) := am_fr.tr Vh10 (am_fr.mo Fh13 (by omega) (by omega))
        have Rh13 := Rh10.kept Fh13 (by omega)
        have Kh13 := (Fh13.2 (n + 13) (by omega)).trans Kh10
        obtain ⟨m0h13, m1h13⟩ := id Mh13
        refine AQ.of (AS.if_ne_t (tgt := 61) eX9_begin_34 (by decide) ⟨by decide, by decide⟩ (by decide)) ?_
        refine q_blk (lv2 := [(0, vr n), (1, vi pl), (2, vi x), (3, vi y)]) (st2 := [vi 0]) kX9_begin_61 rfl ?_
        exact q_ri rfl eX9_begin_62 ⟨0, rfl, Or.inl ⟨1, ⟨0, Or.inr ⟨⟨by omega, by omega⟩, Or.inl ⟨by omega, rfl⟩⟩, rfl⟩, by decide, ⟨_, _, _, _, _, _, _, _, _, _, _, _, _, Mh13, Rh13, Kh13⟩, Vh13⟩⟩
      · skip
        obtain rfl := Th13.f
        have Vh13 : am_fr h h13 n (n + 14) := am_fr.tr Vh10 (am_fr.mo Fh13 (by omega) (by omega))
        have Rh13 := Rh10.kept Fh13 (by omega)
        have Kh13 := (Fh13.2 (n + 13) (by omega)).trans Kh10
        obtain ⟨m0h13, m1h13⟩ := id Mh13
        refine AQ.of (AS.if_ne_f eX9_begin_34 ⟨by decide, by decide⟩ (by decide) (by decide)) ?_
        refine q_blk (lv2 := [(0, vr n), (1, vi pl), (2, vi x), (3, vi y)]) (st2 := [vr n, vr n]) kX9_begin_37 rfl ?_
        refine q_gr eX9_begin_39 fl_RX9_17 (Or.inr ⟨_, rfl⟩) m0h13 rfl ?_
        refine q_blk (lv2 := [(0, vr n), (1, vi pl), (2, vi x), (3, vi y)]) (st2 := [vi 3, vr (n + 2), vr n]) kX9_begin_42 rfl ?_
        refine q_ia eX9_begin_43 m1h13 (by decide) (by omega) (by omega) (z := (D 3)) rfl ?_
        refine q_blk (lv2 := [(0, vr n), (1, vi pl), (2, vi x), (3, vi y)]) (st2 := [vi 6, vi (D 3), vr n]) kX9_begin_44 rfl ?_
        refine AQ.ic_ne (tgt := 53) eX9_begin_46 (by decide) (by first | assumption | exact ⟨by omega, by omega⟩) ⟨by decide, by decide⟩ (fun br14 => ?_) (fun br14 => ?_)
        · skip
          refine q_blk (lv2 := [(0, vr n), (1, vi pl), (2, vi x), (3, vi y)]) (st2 := [vi 0, vr n]) kX9_begin_53 rfl ?_
          refine q_blk (lv2 := [(0, vr n), (1, vi pl), (2, vi x), (3, vi y)]) (st2 := [vi 2, vi 0, vr n]) kX9_begin_54 rfl ?_
          refine AQ.callVi (av := [vi 0, vi 2]) (st := []) (c_X9_fails Mh13 (c := 0) (e := 2) (by decide) (by omega)) lk_RX9_241 (by decide) rfl rfl Mh13.ob ⟨_, rfl, rfl⟩ (Nat.le_of_ble_eq_true rfl) eX9_begin_55 (fun z15 h17 e16 => ?_)
          rcases e16 with ⟨⟨rfl, Bh17⟩ | ⟨rfl, Bh17⟩, ⟨thh17, Th17, Mh17⟩, Fh17⟩
          · skip
            obtain rfl := Th17.t
            have Vh17 : am_fr h h17 n (n + 14) := am_fr.tr Vh13 (am_fr.mo Fh17 (by omega) (by omega))
            have Rh17 := Rh13.kept Fh17 (by omega)
            have Kh17 := (Fh17.2 (n + 13) (by omega)).trans Kh13
            obtain ⟨m0h17, m1h17⟩ := id Mh17
            refine AQ.of (AS.if_eq_f eX9_begin_58 ⟨by decide, by decide⟩ (by decide) (by decide)) ?_
            refine q_blk (lv2 := [(0, vr n), (1, vi pl), (2, vi x), (3, vi y)]) (st2 := [vi 0]) kX9_begin_61 rfl ?_
            exact q_ri rfl eX9_begin_62 ⟨0, rfl, Or.inl ⟨2, ⟨3, Or.inr ⟨⟨by omega, by omega⟩, Or.inr ⟨⟨⟨by omega, by omega⟩, by omega, by omega⟩, Or.inl ⟨by omega, rfl⟩⟩⟩, rfl⟩, by decide, ⟨_, _, _, _, _, _, _, _, _, _, _, _, _, Mh17, Rh17, Kh17⟩, Vh17⟩⟩
          · skip
            obtain rfl := Th17.f
            have Vh17 : am_fr h h17 n (n + 14) := am_fr.tr Vh13 (am_fr.mo Fh17 (by omega) (by omega))
            have Rh17 := Rh13.kept Fh17 (by omega)
            have Kh17 := (Fh17.2 (n + 13) (by omega)).trans Kh13
            obtain ⟨m0h17, m1h17⟩ := id Mh17
            refine AQ.of (AS.if_eq_t (tgt := 63) eX9_begin_58 (by decide) ⟨by decide, by decide⟩ (by decide)) ?_
            refine q_blk (lv2 := [(0, vr n), (1, vi pl), (2, vi x), (3, vi y)]) (st2 := [vr n, vr n]) kX9_begin_63 rfl ?_
            refine q_gr eX9_begin_65 fl_RX9_17 (Or.inr ⟨_, rfl⟩) m0h17 rfl ?_
            refine AQ.callVv (av := [vr (n + 2)]) (st := []) (c_X9_push Mh17 hu Rh17 (Or.inl rfl) m1h17) lk_RX9_254 (by decide) rfl rfl Mh17.ob ⟨_, rfl, rfl⟩ (Nat.le_of_ble_eq_true rfl) eX9_begin_68 (fun h20 e19 => ?_)
            obtain ⟨ud9, rw9, P9, U9, Mh20, Rh20, Fh20, Zh20⟩ := e19
            have Vh20 : am_fr h h20 n (n + 14) := am_fr.tr Vh17 (am_fr.mo Fh20 (by omega) (by omega))
            have Kh20 := (Fh20.2 (n + 13) (by omega)).trans Kh17
            obtain ⟨m0h20, m1h20⟩ := id Mh20
            refine q_blk (lv2 := [(0, vr n), (1, vi pl), (2, vi x), (3, vi y)]) (st2 := [vi y, vi x, vr n]) kX9_begin_71 rfl ?_
            refine q_Vi (av := [vi x, vi y]) (st := []) (c_X9_isTaken Mh20 hD (x := x) (y := y) ⟨by omega, by omega⟩ ⟨by omega, by omega⟩) lk_RX9_110 (by decide) rfl rfl Mh20.ob ⟨_, rfl, rfl⟩ (Nat.le_of_ble_eq_true rfl) eX9_begin_74 (fun z21 e22 => ?_)
            rcases e22 with ⟨rfl, e22⟩ | ⟨rfl, e22⟩
            · skip
              refine AQ.of (AS.if_ne_t (tgt := 89) eX9_begin_77 (by decide) ⟨by decide, by decide⟩ (by decide)) ?_
              refine q_blk (lv2 := [(0, vr n), (1, vi pl), (2, vi x), (3, vi y)]) (st2 := [vi (-3)]) kX9_begin_89 rfl ?_
              exact q_ri rfl eX9_begin_91 ⟨(-3), rfl, Or.inr ⟨⟨⟨by omega, by omega⟩, ⟨⟨by omega, by omega⟩, by omega, by omega⟩, by omega⟩, D, D, cm, ud9, rw9, Or.inl ⟨Or.inl e22, rfl, rfl⟩, gm_same.rf, gm_up.rf, hM, P9, U9, ⟨_, _, _, _, _, _, _, _, _, _, _, _, _, Mh20, Rh20, Kh20⟩, Vh20⟩⟩
            · skip
              refine AQ.of (AS.if_ne_f eX9_begin_77 ⟨by decide, by decide⟩ (by decide) (by decide)) ?_
              refine q_blk (lv2 := [(0, vr n), (1, vi pl), (2, vi x), (3, vi y)]) (st2 := [vi y, vi x, vr n]) kX9_begin_80 rfl ?_
              refine q_Vi (av := [vi x, vi y]) (st := []) (c_X9_isOnSide Mh20 hD (x := x) (y := y) ⟨by omega, by omega⟩ ⟨by omega, by omega⟩) lk_RX9_212 (by decide) rfl rfl Mh20.ob ⟨_, rfl, rfl⟩ (Nat.le_of_ble_eq_true rfl) eX9_begin_83 (fun z23 e24 => ?_)
              rcases e24 with ⟨rfl, e24⟩ | ⟨rfl, e24⟩
              · skip
                refine AQ.of (AS.if_eq_f eX9_begin_86 ⟨by decide, by decide⟩ (by decide) (by decide)) ?_
                refine q_blk (lv2 := [(0, vr n), (1, vi pl), (2, vi x), (3, vi y)]) (st2 := [vi (-3)]) kX9_begin_89 rfl ?_
                exact q_ri rfl eX9_begin_91 ⟨(-3), rfl, Or.inr ⟨⟨⟨by omega, by omega⟩, ⟨⟨by omega, by omega⟩, by omega, by omega⟩, by omega⟩, D, D, cm, ud9, rw9, Or.inl ⟨Or.inr e24, rfl, rfl⟩, gm_same.rf, gm_up.rf, hM, P9, U9, ⟨_, _, _, _, _, _, _, _, _, _, _, _, _, Mh20, Rh20, Kh20⟩, Vh20⟩⟩
              · skip
                refine AQ.of (AS.if_eq_t (tgt := 92) eX9_begin_86 (by decide) ⟨by decide, by decide⟩ (by decide)) ?_
                refine q_blk (lv2 := [(0, vr n), (1, vi pl), (2, vi x), (3, vi y)]) (st2 := [vi y, vi x, vi pl, vr n]) kX9_begin_92 rfl ?_
                refine AQ.callVv (av := [vi pl, vi x, vi y]) (st := []) (c_X9_beginPolygon Mh20 (pl := pl) (x := x) (y := y) ⟨by omega, by omega⟩) lk_RX9_215 (by decide) rfl rfl Mh20.ob ⟨_, rfl, rfl⟩ (Nat.le_of_ble_eq_true rfl) eX9_begin_96 (fun h27 e26 => ?_)
                obtain ⟨Mh27, Fh27⟩ := e26
                have Vh27 : am_fr h h27 n (n + 14) := am_fr.tr Vh20 (am_fr.mo Fh27 (by omega) (by omega))
                have Rh27 := Rh20.kept Fh27 (by omega)
                have Kh27 := (Fh27.2 (n + 13) (by omega)).trans Kh20
                obtain ⟨m0h27, m1h27⟩ := id Mh27
                have q8 : (gm_stP D pl x y) 3 = D 3 + 1 := am_uI_at _ _ _
                refine q_blk (lv2 := [(0, vr n), (1, vi pl), (2, vi x), (3, vi y)]) (st2 := [vr n]) kX9_begin_99 rfl ?_
                refine q_gr eX9_begin_100 fl_RX9_17 (Or.inr ⟨_, rfl⟩) m0h27 rfl ?_
                refine q_blk (lv2 := [(0, vr n), (1, vi pl), (2, vi x), (3, vi y)]) (st2 := [vi 3, vr (n + 2)]) kX9_begin_103 rfl ?_
                refine q_ia eX9_begin_104 m1h27 (by decide) (by omega) (by omega) (z := ((gm_stP D pl x y) 3)) rfl ?_
                refine q_blk (lv2 := [(0, vr n), (1, vi pl), (2, vi x), (3, vi y)]) (st2 := [vi (((gm_stP D pl x y) 3) - 1)]) kX9_begin_105 rfl ?_
                exact q_ri rfl eX9_begin_107 ⟨(((gm_stP D pl x y) 3) - 1), rfl, Or.inr ⟨⟨⟨by omega, by omega⟩, ⟨⟨by omega, by omega⟩, by omega, by omega⟩, by omega⟩, (gm_stP D pl x y), (gm_stP D pl x y), cm, ud9, rw9, Or.inr ⟨fun q => q.elim e22 e24, by have q9 : (gm_stP D pl x y) 3 = D 3 + 1 := am_uI_at _ _ _; omega, rfl⟩, gm_same.rf, (gm_stP_up ⟨by omega, by omega⟩ pl x y), (hM.stP hD (by omega)), P9, U9, ⟨_, _, _, _, _, _, _, _, _, _, _, _, _, Mh27, Rh27, Kh27⟩, Vh27⟩⟩
        · skip
          refine q_blk (lv2 := [(0, vr n), (1, vi pl), (2, vi x), (3, vi y)]) (st2 := [vi 1, vr n]) kX9_begin_49 rfl ?_
          refine q_goto (tgt := 54) eX9_begin_50 (by decide) ?_
          refine q_blk (lv2 := [(0, vr n), (1, vi pl), (2, vi x), (3, vi y)]) (st2 := [vi 2, vi 1, vr n]) kX9_begin_54 rfl ?_
          refine AQ.callVi (av := [vi 1, vi 2]) (st := []) (c_X9_fails Mh13 (c := 1) (e := 2) (by decide) (by omega)) lk_RX9_241 (by decide) rfl rfl Mh13.ob ⟨_, rfl, rfl⟩ (Nat.le_of_ble_eq_true rfl) eX9_begin_55 (fun z28 h30 e29 => ?_)
          rcases e29 with ⟨⟨rfl, Bh30⟩ | ⟨rfl, Bh30⟩, ⟨thh30, Th30, Mh30⟩, Fh30⟩
          · skip
            obtain rfl := Th30.t
            have Vh30 : am_fr h h30 n (n + 14) := am_fr.tr Vh13 (am_fr.mo Fh30 (by omega) (by omega))
            have Rh30 := Rh13.kept Fh30 (by omega)
            have Kh30 := (Fh30.2 (n + 13) (by omega)).trans Kh13
            obtain ⟨m0h30, m1h30⟩ := id Mh30
            refine AQ.of (AS.if_eq_f eX9_begin_58 ⟨by decide, by decide⟩ (by decide) (by decide)) ?_
            refine q_blk (lv2 := [(0, vr n), (1, vi pl), (2, vi x), (3, vi y)]) (st2 := [vi 0]) kX9_begin_61 rfl ?_
            exact q_ri rfl eX9_begin_62 ⟨0, rfl, Or.inl ⟨2, ⟨3, Or.inr ⟨⟨by omega, by omega⟩, Or.inr ⟨⟨⟨by omega, by omega⟩, by omega, by omega⟩, Or.inl ⟨by omega, rfl⟩⟩⟩, rfl⟩, by decide, ⟨_, _, _, _, _, _, _, _, _, _, _, _, _, Mh30, Rh30, Kh30⟩, Vh30⟩⟩
          · skip
            obtain rfl := Th30.f
            have Vh30 : am_fr h h30 n (n + 14) := am_fr.tr Vh13 (am_fr.mo Fh30 (by omega) (by omega))
            have Rh30 := Rh13.kept Fh30 (by omega)
            have Kh30 := (Fh30.2 (n + 13) (by omega)).trans Kh13
            obtain ⟨m0h30, m1h30⟩ := id Mh30
            refine AQ.of (AS.if_eq_t (tgt := 63) eX9_begin_58 (by decide) ⟨by decide, by decide⟩ (by decide)) ?_
            refine q_blk (lv2 := [(0, vr n), (1, vi pl), (2, vi x), (3, vi y)]) (st2 := [vr n, vr n]) kX9_begin_63 rfl ?_
            refine q_gr eX9_begin_65 fl_RX9_17 (Or.inr ⟨_, rfl⟩) m0h30 rfl ?_
            refine AQ.callVv (av := [vr (n + 2)]) (st := []) (c_X9_push Mh30 hu Rh30 (Or.inl rfl) m1h30) lk_RX9_254 (by decide) rfl rfl Mh30.ob ⟨_, rfl, rfl⟩ (Nat.le_of_ble_eq_true rfl) eX9_begin_68 (fun h33 e32 => ?_)
            obtain ⟨ud9, rw9, P9, U9, Mh33, Rh33, Fh33, Zh33⟩ := e32
            have Vh33 : am_fr h h33 n (n + 14) := am_fr.tr Vh30 (am_fr.mo Fh33 (by omega) (by omega))
            have Kh33 := (Fh33.2 (n + 13) (by omega)).trans Kh30
            obtain ⟨m0h33, m1h33⟩ := id Mh33
            refine q_blk (lv2 := [(0, vr n), (1, vi pl), (2, vi x), (3, vi y)]) (st2 := [vi y, vi x, vr n]) kX9_begin_71 rfl ?_
            refine q_Vi (av := [vi x, vi y]) (st := []) (c_X9_isTaken Mh33 hD (x := x) (y := y) ⟨by omega, by omega⟩ ⟨by omega, by omega⟩) lk_RX9_110 (by decide) rfl rfl Mh33.ob ⟨_, rfl, rfl⟩ (Nat.le_of_ble_eq_true rfl) eX9_begin_74 (fun z34 e35 => ?_)
            rcases e35 with ⟨rfl, e35⟩ | ⟨rfl, e35⟩
            · skip
              refine AQ.of (AS.if_ne_t (tgt := 89) eX9_begin_77 (by decide) ⟨by decide, by decide⟩ (by decide)) ?_
              refine q_blk (lv2 := [(0, vr n), (1, vi pl), (2, vi x), (3, vi y)]) (st2 := [vi (-3)]) kX9_begin_89 rfl ?_
              exact q_ri rfl eX9_begin_91 ⟨(-3), rfl, Or.inr ⟨⟨⟨by omega, by omega⟩, ⟨⟨by omega, by omega⟩, by omega, by omega⟩, by omega⟩, D, D, cm, ud9, rw9, Or.inl ⟨Or.inl e35, rfl, rfl⟩, gm_same.rf, gm_up.rf, hM, P9, U9, ⟨_, _, _, _, _, _, _, _, _, _, _, _, _, Mh33, Rh33, Kh33⟩, Vh33⟩⟩
            · skip
              refine AQ.of (AS.if_ne_f eX9_begin_77 ⟨by decide, by decide⟩ (by decide) (by decide)) ?_
              refine q_blk (lv2 := [(0, vr n), (1, vi pl), (2, vi x), (3, vi y)]) (st2 := [vi y, vi x, vr n]) kX9_begin_80 rfl ?_
              refine q_Vi (av := [vi x, vi y]) (st := []) (c_X9_isOnSide Mh33 hD (x := x) (y := y) ⟨by omega, by omega⟩ ⟨by omega, by omega⟩) lk_RX9_212 (by decide) rfl rfl Mh33.ob ⟨_, rfl, rfl⟩ (Nat.le_of_ble_eq_true rfl) eX9_begin_83 (fun z36 e37 => ?_)
              rcases e37 with ⟨rfl, e37⟩ | ⟨rfl, e37⟩
              · skip
                refine AQ.of (AS.if_eq_f eX9_begin_86 ⟨by decide, by decide⟩ (by decide) (by decide)) ?_
                refine q_blk (lv2 := [(0, vr n), (1, vi pl), (2, vi x), (3, vi y)]) (st2 := [vi (-3)]) kX9_begin_89 rfl ?_
                exact q_ri rfl eX9_begin_91 ⟨(-3), rfl, Or.inr ⟨⟨⟨by omega, by omega⟩, ⟨⟨by omega, by omega⟩, by omega, by omega⟩, by omega⟩, D, D, cm, ud9, rw9, Or.inl ⟨Or.inr e37, rfl, rfl⟩, gm_same.rf, gm_up.rf, hM, P9, U9, ⟨_, _, _, _, _, _, _, _, _, _, _, _, _, Mh33, Rh33, Kh33⟩, Vh33⟩⟩
              · skip
                refine AQ.of (AS.if_eq_t (tgt := 92) eX9_begin_86 (by decide) ⟨by decide, by decide⟩ (by decide)) ?_
                refine q_blk (lv2 := [(0, vr n), (1, vi pl), (2, vi x), (3, vi y)]) (st2 := [vi y, vi x, vi pl, vr n]) kX9_begin_92 rfl ?_
                refine AQ.callVv (av := [vi pl, vi x, vi y]) (st := []) (c_X9_beginPolygon Mh33 (pl := pl) (x := x) (y := y) ⟨by omega, by omega⟩) lk_RX9_215 (by decide) rfl rfl Mh33.ob ⟨_, rfl, rfl⟩ (Nat.le_of_ble_eq_true rfl) eX9_begin_96 (fun h40 e39 => ?_)
                obtain ⟨Mh40, Fh40⟩ := e39
                have Vh40 : am_fr h h40 n (n + 14) := am_fr.tr Vh33 (am_fr.mo Fh40 (by omega) (by omega))
                have Rh40 := Rh33.kept Fh40 (by omega)
                have Kh40 := (Fh40.2 (n + 13) (by omega)).trans Kh33
                obtain ⟨m0h40, m1h40⟩ := id Mh40
                have q8 : (gm_stP D pl x y) 3 = D 3 + 1 := am_uI_at _ _ _
                refine q_blk (lv2 := [(0, vr n), (1, vi pl), (2, vi x), (3, vi y)]) (st2 := [vr n]) kX9_begin_99 rfl ?_
                refine q_gr eX9_begin_100 fl_RX9_17 (Or.inr ⟨_, rfl⟩) m0h40 rfl ?_
                refine q_blk (lv2 := [(0, vr n), (1, vi pl), (2, vi x), (3, vi y)]) (st2 := [vi 3, vr (n + 2)]) kX9_begin_103 rfl ?_
                refine q_ia eX9_begin_104 m1h40 (by decide) (by omega) (by omega) (z := ((gm_stP D pl x y) 3)) rfl ?_
                refine q_blk (lv2 := [(0, vr n), (1, vi pl), (2, vi x), (3, vi y)]) (st2 := [vi (((gm_stP D pl x y) 3) - 1)]) kX9_begin_105 rfl ?_
                exact q_ri rfl eX9_begin_107 ⟨(((gm_stP D pl x y) 3) - 1), rfl, Or.inr ⟨⟨⟨by omega, by omega⟩, ⟨⟨by omega, by omega⟩, by omega, by omega⟩, by omega⟩, (gm_stP D pl x y), (gm_stP D pl x y), cm, ud9, rw9, Or.inr ⟨fun q => q.elim e35 e37, by have q9 : (gm_stP D pl x y) 3 = D 3 + 1 := am_uI_at _ _ _; omega, rfl⟩, gm_same.rf, (gm_stP_up ⟨by omega, by omega⟩ pl x y), (hM.stP hD (by omega)), P9, U9, ⟨_, _, _, _, _, _, _, _, _, _, _, _, _, Mh40, Rh40, Kh40⟩, Vh40⟩⟩
  · skip
    refine AQ.of (AS.if_ne_f eX9_begin_12 ⟨by decide, by decide⟩ (by decide) (by decide)) ?_
    refine q_blk (lv2 := [(0, vr n), (1, vi pl), (2, vi x), (3, vi y)]) (st2 := [vi 1, vr n]) kX9_begin_15 rfl ?_
    refine q_goto (tgt := 20) eX9_begin_16 (by decide) ?_
    refine q_blk (lv2 := [(0, vr n), (1, vi pl), (2, vi x), (3, vi y)]) (st2 := [vi 1, vi 1, vr n]) kX9_begin_20 rfl ?_
    refine AQ.callVi (av := [vi 1, vi 1]) (st := []) (c_X9_fails M5 (c := 1) (e := 1) (by decide) (by omega)) lk_RX9_241 (by decide) rfl rfl M5.ob ⟨_, rfl, rfl⟩ (Nat.le_of_ble_eq_true rfl) eX9_begin_21 (fun z41 h43 e42 => ?_)
    rcases e42 with ⟨⟨rfl, Bh43⟩ | ⟨rfl, Bh43⟩, ⟨thh43, Th43, Mh43⟩, Fh43⟩
    · skip
      obtain rfl := Th43.t
      have Vh43 : am_fr h h43 n (n + 14) := am_fr.tr Vh1 (am_fr.mo Fh43 (by omega) (by omega))
      have Rh43 := Rh1.kept Fh43 (by omega)
      have Kh43 := (Fh43.2 (n + 13) (by omega)).trans Kh1
      obtain ⟨m0h43, m1h43⟩ := id Mh43
      refine AQ.of (AS.if_ne_t (tgt := 61) eX9_begin_24 (by decide) ⟨by decide, by decide⟩ (by decide)) ?_
      refine q_blk (lv2 := [(0, vr n), (1, vi pl), (2, vi x), (3, vi y)]) (st2 := [vi 0]) kX9_begin_61 rfl ?_
      exact q_ri rfl eX9_begin_62 ⟨0, rfl, Or.inl ⟨1, ⟨0, Or.inl ⟨by omega, rfl⟩, rfl⟩, by decide, ⟨_, _, _, _, _, _, _, _, _, _, _, _, _, Mh43, Rh43, Kh43⟩, Vh43⟩⟩
    · skip
      obtain rfl := Th43.f
      have Vh43 : am_fr h h43 n (n + 14) := am_fr.tr Vh1 (am_fr.mo Fh43 (by omega) (by omega))
      have Rh43 := Rh1.kept Fh43 (by omega)
      have Kh43 := (Fh43.2 (n + 13) (by omega)).trans Kh1
      obtain ⟨m0h43, m1h43⟩ := id Mh43
      refine AQ.of (AS.if_ne_f eX9_begin_24 ⟨by decide, by decide⟩ (by decide) (by decide)) ?_
      refine q_blk (lv2 := [(0, vr n), (1, vi pl), (2, vi x), (3, vi y)]) (st2 := [vi 1, vi y, vi x, vr n]) kX9_begin_27 rfl ?_
      refine AQ.callVi (av := [vi x, vi y, vi 1]) (st := []) (c_X9_noPoint Mh43 hD (x := x) (y := y) (e := 1) (by first | assumption | exact ⟨by omega, by omega⟩) (by first | assumption | exact ⟨by omega, by omega⟩) (by omega)) lk_RX9_306 (by decide) rfl rfl Mh43.ob ⟨_, rfl, rfl⟩ (Nat.le_of_ble_eq_true rfl) eX9_begin_31 (fun z44 h46 e45 => ?_)
      rcases e45 with ⟨⟨rfl, Bh46⟩ | ⟨rfl, Bh46⟩, ⟨thh46, Th46, Mh46⟩, Fh46⟩
      · skip
        obtain rfl := Th46.t
        have Vh46 : am_fr h h46 n (n + 14) := am_fr.tr Vh43 (am_fr.mo Fh46 (by omega) (by omega))
        have Rh46 := Rh43.kept Fh46 (by omega)
        have Kh46 := (Fh46.2 (n + 13) (by omega)).trans Kh43
        obtain ⟨m0h46, m1h46⟩ := id Mh46
        refine AQ.of (AS.if_ne_t (tgt := 61) eX9_begin_34 (by decide) ⟨by decide, by decide⟩ (by decide)) ?_
        refine q_blk (lv2 := [(0, vr n), (1, vi pl), (2, vi x), (3, vi y)]) (st2 := [vi 0]) kX9_begin_61 rfl ?_
        exact q_ri rfl eX9_begin_62 ⟨0, rfl, Or.inl ⟨1, ⟨0, Or.inr ⟨⟨by omega, by omega⟩, Or.inl ⟨by omega, rfl⟩⟩, rfl⟩, by decide, ⟨_, _, _, _, _, _, _, _, _, _, _, _, _, Mh46, Rh46, Kh46⟩, Vh46⟩⟩
      · skip
        obtain rfl := Th46.f
        have Vh46 : am_fr h h46 n (n + 14) := am_fr.tr Vh43 (am_fr.mo Fh46 (by omega) (by omega))
        have Rh46 := Rh43.kept Fh46 (by omega)
        have Kh46 := (Fh46.2 (n + 13) (by omega)).trans Kh43
        obtain ⟨m0h46, m1h46⟩ := id Mh46
        refine AQ.of (AS.if_ne_f eX9_begin_34 ⟨by decide, by decide⟩ (by decide) (by decide)) ?_
        refine q_blk (lv2 := [(0, vr n), (1, vi pl), (2, vi x), (3, vi y)]) (st2 := [vr n, vr n]) kX9_begin_37 rfl ?_
        refine q_gr eX9_begin_39 fl_RX9_17 (Or.inr ⟨_, rfl⟩) m0h46 rfl ?_
        refine q_blk (lv2 := [(0, vr n), (1, vi pl), (2, vi x), (3, vi y)]) (st2 := [vi 3, vr (n + 2), vr n]) kX9_begin_42 rfl ?_
        refine q_ia eX9_begin_43 m1h46 (by decide) (by omega) (by omega) (z := (D 3)) rfl ?_
        refine q_blk (lv2 := [(0, vr n), (1, vi pl), (2, vi x), (3, vi y)]) (st2 := [vi 6, vi (D 3), vr n]) kX9_begin_44 rfl ?_
        refine AQ.ic_ne (tgt := 53) eX9_begin_46 (by decide) (by first | assumption | exact ⟨by omega, by omega⟩) ⟨by decide, by decide⟩ (fun br47 => ?_) (fun br47 => ?_)
        · skip
          refine q_blk (lv2 := [(0, vr n), (1, vi pl), (2, vi x), (3, vi y)]) (st2 := [vi 0, vr n]) kX9_begin_53 rfl ?_
          refine q_blk (lv2 := [(0, vr n), (1, vi pl), (2, vi x), (3, vi y)]) (st2 := [vi 2, vi 0, vr n]) kX9_begin_54 rfl ?_
          refine AQ.callVi (av := [vi 0, vi 2]) (st := []) (c_X9_fails Mh46 (c := 0) (e := 2) (by decide) (by omega)) lk_RX9_241 (by decide) rfl rfl Mh46.ob ⟨_, rfl, rfl⟩ (Nat.le_of_ble_eq_true rfl) eX9_begin_55 (fun z48 h50 e49 => ?_)
          rcases e49 with ⟨⟨rfl, Bh50⟩ | ⟨rfl, Bh50⟩, ⟨thh50, Th50, Mh50⟩, Fh50⟩
          · skip
            obtain rfl := Th50.t
            have Vh50 : am_fr h h50 n (n + 14) := am_fr.tr Vh46 (am_fr.mo Fh50 (by omega) (by omega))
            have Rh50 := Rh46.kept Fh50 (by omega)
            have Kh50 := (Fh50.2 (n + 13) (by omega)).trans Kh46
            obtain ⟨m0h50, m1h50⟩ := id Mh50
            refine AQ.of (AS.if_eq_f eX9_begin_58 ⟨by decide, by decide⟩ (by decide) (by decide)) ?_
            refine q_blk (lv2 := [(0, vr n), (1, vi pl), (2, vi x), (3, vi y)]) (st2 := [vi 0]) kX9_begin_61 rfl ?_
            exact q_ri rfl eX9_begin_62 ⟨0, rfl, Or.inl ⟨2, ⟨3, Or.inr ⟨⟨by omega, by omega⟩, Or.inr ⟨⟨⟨by omega, by omega⟩, by omega, by omega⟩, Or.inl ⟨by omega, rfl⟩⟩⟩, rfl⟩, by decide, ⟨_, _, _, _, _, _, _, _, _, _, _, _, _, Mh50, Rh50, Kh50⟩, Vh50⟩⟩
          · skip
            obtain rfl := Th50.f
            have Vh50 : am_fr h h50 n (n + 14) := am_fr.tr Vh46 (am_fr.mo Fh50 (by omega) (by omega))
            have Rh50 := Rh46.kept Fh50 (by omega)
            have Kh50 := (Fh50.2 (n + 13) (by omega)).trans Kh46
            obtain ⟨m0h50, m1h50⟩ := id Mh50
            refine AQ.of (AS.if_eq_t (tgt := 63) eX9_begin_58 (by decide) ⟨by decide, by decide⟩ (by decide)) ?_
            refine q_blk (lv2 := [(0, vr n), (1, vi pl), (2, vi x), (3, vi y)]) (st2 := [vr n, vr n]) kX9_begin_63 rfl ?_
            refine q_gr eX9_begin_65 fl_RX9_17 (Or.inr ⟨_, rfl⟩) m0h50 rfl ?_
            refine AQ.callVv (av := [vr (n + 2)]) (st := []) (c_X9_push Mh50 hu Rh50 (Or.inl rfl) m1h50) lk_RX9_254 (by decide) rfl rfl Mh50.ob ⟨_, rfl, rfl⟩ (Nat.le_of_ble_eq_true rfl) eX9_begin_68 (fun h53 e52 => ?_)
            obtain ⟨ud9, rw9, P9, U9, Mh53, Rh53, Fh53, Zh53⟩ := e52
            have Vh53 : am_fr h h53 n (n + 14) := am_fr.tr Vh50 (am_fr.mo Fh53 (by omega) (by omega))
            have Kh53 := (Fh53.2 (n + 13) (by omega)).trans Kh50
            obtain ⟨m0h53, m1h53⟩ := id Mh53
            refine q_blk (lv2 := [(0, vr n), (1, vi pl), (2, vi x), (3, vi y)]) (st2 := [vi y, vi x, vr n]) kX9_begin_71 rfl ?_
            refine q_Vi (av := [vi x, vi y]) (st := []) (c_X9_isTaken Mh53 hD (x := x) (y := y) ⟨by omega, by omega⟩ ⟨by omega, by omega⟩) lk_RX9_110 (by decide) rfl rfl Mh53.ob ⟨_, rfl, rfl⟩ (Nat.le_of_ble_eq_true rfl) eX9_begin_74 (fun z54 e55 => ?_)
            rcases e55 with ⟨rfl, e55⟩ | ⟨rfl, e55⟩
            · skip
              refine AQ.of (AS.if_ne_t (tgt := 89) eX9_begin_77 (by decide) ⟨by decide, by decide⟩ (by decide)) ?_
              refine q_blk (lv2 := [(0, vr n), (1, vi pl), (2, vi x), (3, vi y)]) (st2 := [vi (-3)]) kX9_begin_89 rfl ?_
              exact q_ri rfl eX9_begin_91 ⟨(-3), rfl, Or.inr ⟨⟨⟨by omega, by omega⟩, ⟨⟨by omega, by omega⟩, by omega, by omega⟩, by omega⟩, D, D, cm, ud9, rw9, Or.inl ⟨Or.inl e55, rfl, rfl⟩, gm_same.rf, gm_up.rf, hM, P9, U9, ⟨_, _, _, _, _, _, _, _, _, _, _, _, _, Mh53, Rh53, Kh53⟩, Vh53⟩⟩
            · skip
              refine AQ.of (AS.if_ne_f eX9_begin_77 ⟨by decide, by decide⟩ (by decide) (by decide)) ?_
              refine q_blk (lv2 := [(0, vr n), (1, vi pl), (2, vi x), (3, vi y)]) (st2 := [vi y, vi x, vr n]) kX9_begin_80 rfl ?_
              refine q_Vi (av := [vi x, vi y]) (st := []) (c_X9_isOnSide Mh53 hD (x := x) (y := y) ⟨by omega, by omega⟩ ⟨by omega, by omega⟩) lk_RX9_212 (by decide) rfl rfl Mh53.ob ⟨_, rfl, rfl⟩ (Nat.le_of_ble_eq_true rfl) eX9_begin_83 (fun z56 e57 => ?_)
              rcases e57 with ⟨rfl, e57⟩ | ⟨rfl, e57⟩
              · skip
                refine AQ.of (AS.if_eq_f eX9_begin_86 ⟨by decide, by decide⟩ (by decide) (by decide)) ?_
                refine q_blk (lv2 := [(0, vr n), (1, vi pl), (2, vi x), (3, vi y)]) (st2 := [vi (-3)]) kX9_begin_89 rfl ?_
                exact q_ri rfl eX9_begin_91 ⟨(-3), rfl, Or.inr ⟨⟨⟨by omega, by omega⟩, ⟨⟨by omega, by omega⟩, by omega, by omega⟩, by omega⟩, D, D, cm, ud9, rw9, Or.inl ⟨Or.inr e57, rfl, rfl⟩, gm_same.rf, gm_up.rf, hM, P9, U9, ⟨_, _, _, _, _, _, _, _, _, _, _, _, _, Mh53, Rh53, Kh53⟩, Vh53⟩⟩
              · skip
                refine AQ.of (AS.if_eq_t (tgt := 92) eX9_begin_86 (by decide) ⟨by decide, by decide⟩ (by decide)) ?_
                refine q_blk (lv2 := [(0, vr n), (1, vi pl), (2, vi x), (3, vi y)]) (st2 := [vi y, vi x, vi pl, vr n]) kX9_begin_92 rfl ?_
                refine AQ.callVv (av := [vi pl, vi x, vi y]) (st := []) (c_X9_beginPolygon Mh53 (pl := pl) (x := x) (y := y) ⟨by omega, by omega⟩) lk_RX9_215 (by decide) rfl rfl Mh53.ob ⟨_, rfl, rfl⟩ (Nat.le_of_ble_eq_true rfl) eX9_begin_96 (fun h60 e59 => ?_)
                obtain ⟨Mh60, Fh60⟩ := e59
                have Vh60 : am_fr h h60 n (n + 14) := am_fr.tr Vh53 (am_fr.mo Fh60 (by omega) (by omega))
                have Rh60 := Rh53.kept Fh60 (by omega)
                have Kh60 := (Fh60.2 (n + 13) (by omega)).trans Kh53
                obtain ⟨m0h60, m1h60⟩ := id Mh60
                have q8 : (gm_stP D pl x y) 3 = D 3 + 1 := am_uI_at _ _ _
                refine q_blk (lv2 := [(0, vr n), (1, vi pl), (2, vi x), (3, vi y)]) (st2 := [vr n]) kX9_begin_99 rfl ?_
                refine q_gr eX9_begin_100 fl_RX9_17 (Or.inr ⟨_, rfl⟩) m0h60 rfl ?_
                refine q_blk (lv2 := [(0, vr n), (1, vi pl), (2, vi x), (3, vi y)]) (st2 := [vi 3, vr (n + 2)]) kX9_begin_103 rfl ?_
                refine q_ia eX9_begin_104 m1h60 (by decide) (by omega) (by omega) (z := ((gm_stP D pl x y) 3)) rfl ?_
                refine q_blk (lv2 := [(0, vr n), (1, vi pl), (2, vi x), (3, vi y)]) (st2 := [vi (((gm_stP D pl x y) 3) - 1)]) kX9_begin_105 rfl ?_
                exact q_ri rfl eX9_begin_107 ⟨(((gm_stP D pl x y) 3) - 1), rfl, Or.inr ⟨⟨⟨by omega, by omega⟩, ⟨⟨by omega, by omega⟩, by omega, by omega⟩, by omega⟩, (gm_stP D pl x y), (gm_stP D pl x y), cm, ud9, rw9, Or.inr ⟨fun q => q.elim e55 e57, by have q9 : (gm_stP D pl x y) 3 = D 3 + 1 := am_uI_at _ _ _; omega, rfl⟩, gm_same.rf, (gm_stP_up ⟨by omega, by omega⟩ pl x y), (hM.stP hD (by omega)), P9, U9, ⟨_, _, _, _, _, _, _, _, _, _, _, _, _, Mh60, Rh60, Kh60⟩, Vh60⟩⟩
        · skip
          refine q_blk (lv2 := [(0, vr n), (1, vi pl), (2, vi x), (3, vi y)]) (st2 := [vi 1, vr n]) kX9_begin_49 rfl ?_
          refine q_goto (tgt := 54) eX9_begin_50 (by decide) ?_
          refine q_blk (lv2 := [(0, vr n), (1, vi pl), (2, vi x), (3, vi y)]) (st2 := [vi 2, vi 1, vr n]) kX9_begin_54 rfl ?_
          refine AQ.callVi (av := [vi 1, vi 2]) (st := []) (c_X9_fails Mh46 (c := 1) (e := 2) (by decide) (by omega)) lk_RX9_241 (by decide) rfl rfl Mh46.ob ⟨_, rfl, rfl⟩ (Nat.le_of_ble_eq_true rfl) eX9_begin_55 (fun z61 h63 e62 => ?_)
          rcases e62 with ⟨⟨rfl, Bh63⟩ | ⟨rfl, Bh63⟩, ⟨thh63, Th63, Mh63⟩, Fh63⟩
          · skip
            obtain rfl := Th63.t
            have Vh63 : am_fr h h63 n (n + 14) := am_fr.tr Vh46 (am_fr.mo Fh63 (by omega) (by omega))
            have Rh63 := Rh46.kept Fh63 (by omega)
            have Kh63 := (Fh63.2 (n + 13) (by omega)).trans Kh46
            obtain ⟨m0h63, m1h63⟩ := id Mh63
            refine AQ.of (AS.if_eq_f eX9_begin_58 ⟨by decide, by decide⟩ (by decide) (by decide)) ?_
            refine q_blk (lv2 := [(0, vr n), (1, vi pl), (2, vi x), (3, vi y)]) (st2 := [vi 0]) kX9_begin_61 rfl ?_
            exact q_ri rfl eX9_begin_62 ⟨0, rfl, Or.inl ⟨2, ⟨3, Or.inr ⟨⟨by omega, by omega⟩, Or.inr ⟨⟨⟨by omega, by omega⟩, by omega, by omega⟩, Or.inl ⟨by omega, rfl⟩⟩⟩, rfl⟩, by decide, ⟨_, _, _, _, _, _, _, _, _, _, _, _, _, Mh63, Rh63, Kh63⟩, Vh63⟩⟩
          · skip
            obtain rfl := Th63.f
            have Vh63 : am_fr h h63 n (n + 14) := am_fr.tr Vh46 (am_fr.mo Fh63 (by omega) (by omega))
            have Rh63 := Rh46.kept Fh63 (by omega)
            have Kh63 := (Fh63.2 (n + 13) (by omega)).trans Kh46
            obtain ⟨m0h63, m1h63⟩ := id Mh63
            refine AQ.of (AS.if_eq_t (tgt := 63) eX9_begin_58 (by decide) ⟨by decide, by decide⟩ (by decide)) ?_
            refine q_blk (lv2 := [(0, vr n), (1, vi pl), (2, vi x), (3, vi y)]) (st2 := [vr n, vr n]) kX9_begin_63 rfl ?_
            refine q_gr eX9_begin_65 fl_RX9_17 (Or.inr ⟨_, rfl⟩) m0h63 rfl ?_
            refine AQ.callVv (av := [vr (n + 2)]) (st := []) (c_X9_push Mh63 hu Rh63 (Or.inl rfl) m1h63) lk_RX9_254 (by decide) rfl rfl Mh63.ob ⟨_, rfl, rfl⟩ (Nat.le_of_ble_eq_true rfl) eX9_begin_68 (fun h66 e65 => ?_)
            obtain ⟨ud9, rw9, P9, U9, Mh66, Rh66, Fh66, Zh66⟩ := e65
            have Vh66 : am_fr h h66 n (n + 14) := am_fr.tr Vh63 (am_fr.mo Fh66 (by omega) (by omega))
            have Kh66 := (Fh66.2 (n + 13) (by omega)).trans Kh63
            obtain ⟨m0h66, m1h66⟩ := id Mh66
            refine q_blk (lv2 := [(0, vr n), (1, vi pl), (2, vi x), (3, vi y)]) (st2 := [vi y, vi x, vr n]) kX9_begin_71 rfl ?_
            refine q_Vi (av := [vi x, vi y]) (st := []) (c_X9_isTaken Mh66 hD (x := x) (y := y) ⟨by omega, by omega⟩ ⟨by omega, by omega⟩) lk_RX9_110 (by decide) rfl rfl Mh66.ob ⟨_, rfl, rfl⟩ (Nat.le_of_ble_eq_true rfl) eX9_begin_74 (fun z67 e68 => ?_)
            rcases e68 with ⟨rfl, e68⟩ | ⟨rfl, e68⟩
            · skip
              refine AQ.of (AS.if_ne_t (tgt := 89) eX9_begin_77 (by decide) ⟨by decide, by decide⟩ (by decide)) ?_
              refine q_blk (lv2 := [(0, vr n), (1, vi pl), (2, vi x), (3, vi y)]) (st2 := [vi (-3)]) kX9_begin_89 rfl ?_
              exact q_ri rfl eX9_begin_91 ⟨(-3), rfl, Or.inr ⟨⟨⟨by omega, by omega⟩, ⟨⟨by omega, by omega⟩, by omega, by omega⟩, by omega⟩, D, D, cm, ud9, rw9, Or.inl ⟨Or.inl e68, rfl, rfl⟩, gm_same.rf, gm_up.rf, hM, P9, U9, ⟨_, _, _, _, _, _, _, _, _, _, _, _, _, Mh66, Rh66, Kh66⟩, Vh66⟩⟩
            · skip
              refine AQ.of (AS.if_ne_f eX9_begin_77 ⟨by decide, by decide⟩ (by decide) (by decide)) ?_
              refine q_blk (lv2 := [(0, vr n), (1, vi pl), (2, vi x), (3, vi y)]) (st2 := [vi y, vi x, vr n]) kX9_begin_80 rfl ?_
              refine q_Vi (av := [vi x, vi y]) (st := []) (c_X9_isOnSide Mh66 hD (x := x) (y := y) ⟨by omega, by omega⟩ ⟨by omega, by omega⟩) lk_RX9_212 (by decide) rfl rfl Mh66.ob ⟨_, rfl, rfl⟩ (Nat.le_of_ble_eq_true rfl) eX9_begin_83 (fun z69 e70 => ?_)
              rcases e70 with ⟨rfl, e70⟩ | ⟨rfl, e70⟩
              · skip
                refine AQ.of (AS.if_eq_f eX9_begin_86 ⟨by decide, by decide⟩ (by decide) (by decide)) ?_
                refine q_blk (lv2 := [(0, vr n), (1, vi pl), (2, vi x), (3, vi y)]) (st2 := [vi (-3)]) kX9_begin_89 rfl ?_
                exact q_ri rfl eX9_begin_91 ⟨(-3), rfl, Or.inr ⟨⟨⟨by omega, by omega⟩, ⟨⟨by omega, by omega⟩, by omega, by omega⟩, by omega⟩, D, D, cm, ud9, rw9, Or.inl ⟨Or.inr e70, rfl, rfl⟩, gm_same.rf, gm_up.rf, hM, P9, U9, ⟨_, _, _, _, _, _, _, _, _, _, _, _, _, Mh66, Rh66, Kh66⟩, Vh66⟩⟩
              · skip
                refine AQ.of (AS.if_eq_t (tgt := 92) eX9_begin_86 (by decide) ⟨by decide, by decide⟩ (by decide)) ?_
                refine q_blk (lv2 := [(0, vr n), (1, vi pl), (2, vi x), (3, vi y)]) (st2 := [vi y, vi x, vi pl, vr n]) kX9_begin_92 rfl ?_
                refine AQ.callVv (av := [vi pl, vi x, vi y]) (st := []) (c_X9_beginPolygon Mh66 (pl := pl) (x := x) (y := y) ⟨by omega, by omega⟩) lk_RX9_215 (by decide) rfl rfl Mh66.ob ⟨_, rfl, rfl⟩ (Nat.le_of_ble_eq_true rfl) eX9_begin_96 (fun h73 e72 => ?_)
                obtain ⟨Mh73, Fh73⟩ := e72
                have Vh73 : am_fr h h73 n (n + 14) := am_fr.tr Vh66 (am_fr.mo Fh73 (by omega) (by omega))
                have Rh73 := Rh66.kept Fh73 (by omega)
                have Kh73 := (Fh73.2 (n + 13) (by omega)).trans Kh66
                obtain ⟨m0h73, m1h73⟩ := id Mh73
                have q8 : (gm_stP D pl x y) 3 = D 3 + 1 := am_uI_at _ _ _
                refine q_blk (lv2 := [(0, vr n), (1, vi pl), (2, vi x), (3, vi y)]) (st2 := [vr n]) kX9_begin_99 rfl ?_
                refine q_gr eX9_begin_100 fl_RX9_17 (Or.inr ⟨_, rfl⟩) m0h73 rfl ?_
                refine q_blk (lv2 := [(0, vr n), (1, vi pl), (2, vi x), (3, vi y)]) (st2 := [vi 3, vr (n + 2)]) kX9_begin_103 rfl ?_
                refine q_ia eX9_begin_104 m1h73 (by decide) (by omega) (by omega) (z := ((gm_stP D pl x y) 3)) rfl ?_
                refine q_blk (lv2 := [(0, vr n), (1, vi pl), (2, vi x), (3, vi y)]) (st2 := [vi (((gm_stP D pl x y) 3) - 1)]) kX9_begin_105 rfl ?_
                exact q_ri rfl eX9_begin_107 ⟨(((gm_stP D pl x y) 3) - 1), rfl, Or.inr ⟨⟨⟨by omega, by omega⟩, ⟨⟨by omega, by omega⟩, by omega, by omega⟩, by omega⟩, (gm_stP D pl x y), (gm_stP D pl x y), cm, ud9, rw9, Or.inr ⟨fun q => q.elim e68 e70, by have q9 : (gm_stP D pl x y) 3 = D 3 + 1 := am_uI_at _ _ _; omega, rfl⟩, gm_same.rf, (gm_stP_up ⟨by omega, by omega⟩ pl x y), (hM.stP hD (by omega)), P9, U9, ⟨_, _, _, _, _, _, _, _, _, _, _, _, _, Mh73, Rh73, Kh73⟩, Vh73⟩⟩

set_option maxHeartbeats 1000000 in
theorem c_X9_corner {w : am_w} {h : AH} {n : Nat} {th bl eo ud : Int} {bf : Int → Int} {rw : Int → Int → Int} {D : Int → Int} (hA : MA h n th bl eo ud bf rw D) (hD : VD D) (hu : 0 ≤ ud ∧ ud ≤ 8) {cm : Int → Int} (hM : CMS D cm) {p x y : Int} (r_p : am_r p) (r_x : am_r x) (r_y : am_r y)  : AE w m_X9_corner 10 [vr n, vi p, vi x, vi y] h (am_int (fun z h1 => (∃ th', gm_tx (fun k => if k = 2 then 1 else 2) (gA_p D p (gA_xy D x y gm_F)) th' ∧ th' ≠ 0 ∧ MA h1 n th' bl eo ud bf rw D ∧ am_fr h h1 n (n + 14)) ∨ (((0 ≤ p ∧ p < D 3) ∧ (0 ≤ x ∧ x ≤ D 0) ∧ (0 ≤ y ∧ y ≤ D 1)) ∧ ∃ D2 D' cm' ud' rw', gR_cor D p x y z D2 ∧ gm_same D2 D' ∧ gm_up D D' ∧ CMS D' cm' ∧ PU ud rw D ud' rw' ∧ (1 ≤ ud' ∧ ud' ≤ 8) ∧ MA h1 n 0 bl eo ud' bf rw' D' ∧ am_fr h h1 n (n + 14)))) := by
  refine AE.of wf_X9_corner (Nat.le_of_ble_eq_true rfl) (am_ok_i) ?_
  obtain ⟨tl, ps, er, ea, g0, g1, g2, g3, ns, ne, se, od, sk, hm, hR, hK⟩ := hA
  obtain ⟨m0, m1⟩ := id hm
  have d0 := hD.1
  have d1 := hD.2.1
  have d2 := hD.2.2.1
  have d3 := hD.2.2.2.1
  refine q_blk (lv2 := [(0, vr n), (1, vi p), (2, vi x), (3, vi y)]) (st2 := [vi 0, vr n]) kX9_corner_0 rfl ?_
  refine q_pi eX9_corner_2 fl_RX9_32 (fun q hq => by cases hq; exact Or.inl rfl) (Or.inl rfl) m0 (Nat.le_of_ble_eq_true rfl) (l2 := [0, 0, bl, tl, ps, er, ea, eo, 0, 0, 0, ud, g0, g1, g2, g3, ns, ne, se, 0]) rfl (fun h1 e2 => ?_)
  have k3 := am_at e2
  have k4 := (am_ne e2 (n + 2) (by omega)).trans m1
  have k5 := (am_ne e2 (n + 13) (by omega)).trans hK
  have M5 : MM h1 n 0 bl tl ps er ea eo ud g0 g1 g2 g3 ns ne se D := ⟨k3, k4⟩
  have F5 : am_fr h h1 n (n + 1) := am_fr.st e2 (by omega) (by omega)
  have Vh1 : am_fr h h1 n (n + 14) := am_fr.mo F5 (by omega) (by omega)
  have Rh1 := hR.kept F5 (by omega)
  have Kh1 := (F5.2 (n + 13) (by omega)).trans hK
  obtain ⟨m0h1, m1h1⟩ := id M5
  refine q_blk (lv2 := [(0, vr n), (1, vi p), (2, vi x), (3, vi y)]) (st2 := [vi p, vr n]) kX9_corner_5 rfl ?_
  refine AQ.callVi (av := [vi p]) (st := []) (c_X9_noPolygon M5 hD (by first | assumption | exact ⟨by omega, by omega⟩)) lk_RX9_300 (by decide) rfl rfl M5.ob ⟨_, rfl, rfl⟩ (Nat.le_of_ble_eq_true rfl) eX9_corner_7 (fun z6 h8 e7 => ?_)
  rcases e7 with ⟨⟨rfl, Bh8⟩ | ⟨rfl, Bh8⟩, ⟨thh8, Th8, Mh8⟩, Fh8⟩
  · skip
    obtain rfl := Th8.t
    have Vh8 : am_fr h h8 n (n + 14) := am_fr.tr Vh1 (am_fr.mo Fh8 (by omega) (by omega))
    have Rh8 := Rh1.kept Fh8 (by omega)
    have Kh8 := (Fh8.2 (n + 13) (by omega)).trans Kh1
    obtain ⟨m0h8, m1h8⟩ := id Mh8
    refine AQ.of (AS.if_ne_t (tgt := 23) eX9_corner_10 (by decide) ⟨by decide, by decide⟩ (by decide)) ?_
    refine q_blk (lv2 := [(0, vr n), (1, vi p), (2, vi x), (3, vi y)]) (st2 := [vi 0]) kX9_corner_23 rfl ?_
    exact q_ri rfl eX9_corner_24 ⟨0, rfl, Or.inl ⟨1, ⟨2, Or.inl ⟨by omega, rfl⟩, rfl⟩, by decide, ⟨_, _, _, _, _, _, _, _, _, _, _, _, _, Mh8, Rh8, Kh8⟩, Vh8⟩⟩
  · skip
    obtain rfl := Th8.f
    have Vh8 : am_fr h h8 n (n + 14) := am_fr.tr Vh1 (am_fr.mo Fh8 (by omega) (by omega))
    have Rh8 := Rh1.kept Fh8 (by omega)
    have Kh8 := (Fh8.2 (n + 13) (by omega)).trans Kh1
    obtain ⟨m0h8, m1h8⟩ := id Mh8
    refine AQ.of (AS.if_ne_f eX9_corner_10 ⟨by decide, by decide⟩ (by decide) (by decide)) ?_
    refine q_blk (lv2 := [(0, vr n), (1, vi p), (2, vi x), (3, vi y)]) (st2 := [vi 2, vi y, vi x, vr n]) kX9_corner_13 rfl ?_
    refine AQ.callVi (av := [vi x, vi y, vi 2]) (st := []) (c_X9_noPoint Mh8 hD (x := x) (y := y) (e := 2) (by first | assumption | exact ⟨by omega, by omega⟩) (by first | assumption | exact ⟨by omega, by omega⟩) (by omega)) lk_RX9_306 (by decide) rfl rfl Mh8.ob ⟨_, rfl, rfl⟩ (Nat.le_of_ble_eq_true rfl) eX9_corner_17 (fun z9 h11 e10 => ?_)
    rcases e10 with ⟨⟨rfl, Bh11⟩ | ⟨rfl, Bh11⟩, ⟨thh11, Th11, Mh11⟩, Fh11⟩
    · skip
      obtain rfl := Th11.t
      have Vh11 : am_fr h h11 n (n + 14) := am_fr.tr Vh8 (am_fr.mo Fh11 (by omega) (by omega))
      have Rh11 := Rh8.kept Fh11 (by omega)
      have Kh11 := (Fh11.2 (n + 13) (by omega)).trans Kh8
      obtain ⟨m0h11, m1h11⟩ := id Mh11
      refine AQ.of (AS.if_eq_f eX9_corner_20 ⟨by decide, by decide⟩ (by decide) (by decide)) ?_
      refine q_blk (lv2 := [(0, vr n), (1, vi p), (2, vi x), (3, vi y)]) (st2 := [vi 0]) kX9_corner_23 rfl ?_
      exact q_ri rfl eX9_corner_24 ⟨0, rfl, Or.inl ⟨2, ⟨0, Or.inr ⟨⟨by omega, by omega⟩, Or.inl ⟨by omega, rfl⟩⟩, rfl⟩, by decide, ⟨_, _, _, _, _, _, _, _, _, _, _, _, _, Mh11, Rh11, Kh11⟩, Vh11⟩⟩
    · skip
      obtain rfl := Th11.f
      have Vh11 : am_fr h h11 n (n + 14) := am_fr.tr Vh8 (am_fr.mo Fh11 (by omega) (by omega))
      have Rh11 := Rh8.kept Fh11 (by omega)
      have Kh11 := (Fh11.2 (n + 13) (by omega)).trans Kh8
      obtain ⟨m0h11, m1h11⟩ := id Mh11
      refine AQ.of (AS.if_eq_t (tgt := 25) eX9_corner_20 (by decide) ⟨by decide, by decide⟩ (by decide)) ?_
      refine q_blk (lv2 := [(0, vr n), (1, vi p), (2, vi x), (3, vi y)]) (st2 := [vr n, vr n]) kX9_corner_25 rfl ?_
      refine q_gr eX9_corner_27 fl_RX9_17 (Or.inr ⟨_, rfl⟩) m0h11 rfl ?_
      refine AQ.callVv (av := [vr (n + 2)]) (st := []) (c_X9_push Mh11 hu Rh11 (Or.inl rfl) m1h11) lk_RX9_254 (by decide) rfl rfl Mh11.ob ⟨_, rfl, rfl⟩ (Nat.le_of_ble_eq_true rfl) eX9_corner_30 (fun h14 e13 => ?_)
      obtain ⟨ud9, rw9, P9, U9, Mh14, Rh14, Fh14, Zh14⟩ := e13
      have Vh14 : am_fr h h14 n (n + 14) := am_fr.tr Vh11 (am_fr.mo Fh14 (by omega) (by omega))
      have Kh14 := (Fh14.2 (n + 13) (by omega)).trans Kh11
      obtain ⟨m0h14, m1h14⟩ := id Mh14
      refine q_blk (lv2 := [(0, vr n), (1, vi p), (2, vi x), (3, vi y)]) (st2 := [vi y, vi x, vi p, vr n]) kX9_corner_33 rfl ?_
      refine AQ.callVi (av := [vi p, vi x, vi y]) (st := []) (c_X9_cornerReason Mh14 hD (p := p) (x := x) (y := y) (by omega) (by omega) ⟨by omega, by omega⟩ ⟨by omega, by omega⟩) lk_RX9_219 (by decide) rfl rfl Mh14.ob ⟨_, rfl, rfl⟩ (Nat.le_of_ble_eq_true rfl) eX9_corner_37 (fun z15 h17 e16 => ?_)
      obtain ⟨Zh17, ah17, bh17, ch17, dh17, Mh17, Fh17⟩ := e16
      have zrh17 := gm_rC_r Zh17
      have Vh17 : am_fr h h17 n (n + 14) := am_fr.tr Vh14 (am_fr.mo Fh17 (by omega) (by omega))
      have Rh17 := Rh14.kept Fh17 (by omega)
      have Kh17 := (Fh17.2 (n + 13) (by omega)).trans Kh14
      obtain ⟨m0h17, m1h17⟩ := id Mh17
      refine q_blk (lv2 := [(0, vr n), (1, vi p), (2, vi x), (3, vi y), (4, vi z15)]) (st2 := [vi z15]) kX9_corner_40 rfl ?_
      refine AQ.if_le (tgt := 51) eX9_corner_44 (by decide) (by first | assumption | exact ⟨by omega, by omega⟩) (fun br18 => ?_) (fun br18 => ?_)
      · skip
        have R0 := Zh17
        rw [show z15 = 0 by omega] at R0
        have r0 := gm_rC_0 R0
        have hn9 := hD.n (p := p) (by omega) (by omega)
        refine q_blk (lv2 := [(0, vr n), (1, vi p), (2, vi x), (3, vi y), (4, vi z15)]) (st2 := [vi p, vr n, vi p, vr n]) kX9_corner_51 rfl ?_
        refine q_Vi (av := [vi p]) (st := [vi p, vr n]) (c_X9_countOf0 Mh17 (p := p) (by omega) (by omega)) lk_RX9_39 (by decide) rfl rfl Mh17.ob ⟨_, rfl, rfl⟩ (Nat.le_of_ble_eq_true rfl) eX9_corner_55 (fun z19 e20 => ?_)
        subst e20
        refine q_blk (lv2 := [(0, vr n), (1, vi p), (2, vi x), (3, vi y), (4, vi z15)]) (st2 := [vi y, vi x, vi (pN D p), vi p, vr n]) kX9_corner_58 rfl ?_
        refine AQ.callVv (av := [vi p, vi (pN D p), vi x, vi y]) (st := []) (c_X9_putCorner Mh17 (p := p) (k := (pN D p)) (x := x) (y := y) (by omega) (by omega) (by omega) (by omega) (by omega)) lk_RX9_124 (by decide) rfl rfl Mh17.ob ⟨_, rfl, rfl⟩ (Nat.le_of_ble_eq_true rfl) eX9_corner_60 (fun h23 e22 => ?_)
        obtain ⟨Mh23, Fh23⟩ := e22
        have Vh23 : am_fr h h23 n (n + 14) := am_fr.tr Vh17 (am_fr.mo Fh23 (by omega) (by omega))
        have Rh23 := Rh17.kept Fh23 (by omega)
        have Kh23 := (Fh23.2 (n + 13) (by omega)).trans Kh17
        obtain ⟨m0h23, m1h23⟩ := id Mh23
        have SM : gm_same (gm_adC D p x y) (gm_ptc D p (pN D p) x y) := gm_ptc_same (by omega) (by omega) (by omega) (by omega) hD.2.2.1 (fun q q0 q1 => by have := hD.n q0 q1; omega)
        refine q_blk (lv2 := [(0, vr n), (1, vi p), (2, vi x), (3, vi y), (4, vi z15)]) (st2 := [vi p, vr n]) kX9_corner_63 rfl ?_
        refine q_Vi (av := [vi p]) (st := []) (c_X9_countOf0 Mh23 (p := p) (by omega) (by omega)) lk_RX9_39 (by decide) rfl rfl Mh23.ob ⟨_, rfl, rfl⟩ (Nat.le_of_ble_eq_true rfl) eX9_corner_65 (fun z24 e25 => ?_)
        subst e25
        exact q_ri rfl eX9_corner_68 ⟨(pN (gm_ptc D p (pN D p) x y) p), rfl, Or.inr ⟨⟨⟨by omega, by omega⟩, ⟨by omega, by omega⟩, by omega, by omega⟩, (gm_adC D p x y), (gm_ptc D p (pN D p) x y), cm, ud9, rw9, ⟨0, R0, Or.inr ⟨rfl, (by have q9 := (SM.2.2.2.2.2 p (by omega) (by rw [show gm_adC D p x y 3 = D 3 from gm_setP_o (by omega)]; omega)).2.1; rw [q9]; exact gm_setP_n), rfl⟩⟩, SM, (gm_ptc_up (by omega) (by omega) (by omega) (by omega) (by omega)), ((hM.adC hD (by omega) (by omega) r0.1).same (gm_adC_vd hD (by omega) (by omega) r0.1 r0.2.1 ⟨by omega, by omega⟩ ⟨by omega, by omega⟩) SM), P9, U9, ⟨_, _, _, _, _, _, _, _, _, _, _, _, _, Mh23, Rh23, Kh23⟩, Vh23⟩⟩
      · skip
        refine q_blk (lv2 := [(0, vr n), (1, vi p), (2, vi x), (3, vi y), (4, vi z15)]) (st2 := [vi (-z15)]) kX9_corner_47 rfl ?_
        exact q_ri rfl eX9_corner_50 ⟨(-z15), rfl, Or.inr ⟨⟨⟨by omega, by omega⟩, ⟨by omega, by omega⟩, by omega, by omega⟩, D, D, cm, ud9, rw9, ⟨_, Zh17, Or.inl ⟨by omega, rfl, rfl⟩⟩, gm_same.rf, gm_up.rf, hM, P9, U9, ⟨_, _, _, _, _, _, _, _, _, _, _, _, _, Mh17, Rh17, Kh17⟩, Vh17⟩⟩

set_option maxHeartbeats 1000000 in
theorem c_X9_close {w : am_w} {h : AH} {n : Nat} {th bl eo ud : Int} {bf : Int → Int} {rw : Int → Int → Int} {D : Int → Int} (hA : MA h n th bl eo ud bf rw D) (hD : VD D) (hu : 0 ≤ ud ∧ ud ≤ 8) {cm : Int → Int} (hM : CMS D cm) {p : Int} (r_p : am_r p)  : AE w m_X9_close 10 [vr n, vi p] h (am_int (fun z h1 => (∃ th', gm_tx (fun _ => 1) (gA_p D p gm_F) th' ∧ th' ≠ 0 ∧ MA h1 n th' bl eo ud bf rw D ∧ am_fr h h1 n (n + 14)) ∨ ((0 ≤ p ∧ p < D 3) ∧ ∃ D2 D' cm' ud' rw', gR_clo D p z D2 cm' ∧ gm_same D2 D' ∧ gm_up D D' ∧ CMS D' cm' ∧ PU ud rw D ud' rw' ∧ (1 ≤ ud' ∧ ud' ≤ 8) ∧ MA h1 n 0 bl eo ud' bf rw' D' ∧ am_fr h h1 n (n + 14)))) := by
  refine AE.of wf_X9_close (Nat.le_of_ble_eq_true rfl) (am_ok_i) ?_
  obtain ⟨tl, ps, er, ea, g0, g1, g2, g3, ns, ne, se, od, sk, hm, hR, hK⟩ := hA
  obtain ⟨m0, m1⟩ := id hm
  have d0 := hD.1
  have d1 := hD.2.1
  have d2 := hD.2.2.1
  have d3 := hD.2.2.2.1
  refine q_blk (lv2 := [(0, vr n), (1, vi p)]) (st2 := [vi 0, vr n]) kX9_close_0 rfl ?_
  refine q_pi eX9_close_2 fl_RX9_32 (fun q hq => by cases hq; exact Or.inl rfl) (Or.inl rfl) m0 (Nat.le_of_ble_eq_true rfl) (l2 := [0, 0, bl, tl, ps, er, ea, eo, 0, 0, 0, ud, g0, g1, g2, g3, ns, ne, se, 0]) rfl (fun h1 e2 => ?_)
  have k3 := am_at e2
  have k4 := (am_ne e2 (n + 2) (by omega)).trans m1
  have k5 := (am_ne e2 (n + 13) (by omega)).trans hK
  have M5 : MM h1 n 0 bl tl ps er ea eo ud g0 g1 g2 g3 ns ne se D := ⟨k3, k4⟩
  have F5 : am_fr h h1 n (n + 1) := am_fr.st e2 (by omega) (by omega)
  have Vh1 : am_fr h h1 n (n + 14) := am_fr.mo F5 (by omega) (by omega)
  have Rh1 := hR.kept F5 (by omega)
  have Kh1 := (F5.2 (n + 13) (by omega)).trans hK
  obtain ⟨m0h1, m1h1⟩ := id M5
  refine q_blk (lv2 := [(0, vr n), (1, vi p)]) (st2 := [vi p, vr n]) kX9_close_5 rfl ?_
  refine AQ.callVi (av := [vi p]) (st := []) (c_X9_noPolygon M5 hD (by first | assumption | exact ⟨by omega, by omega⟩)) lk_RX9_300 (by decide) rfl rfl M5.ob ⟨_, rfl, rfl⟩ (Nat.le_of_ble_eq_true rfl) eX9_close_7 (fun z6 h8 e7 => ?_)
  rcases e7 with ⟨⟨rfl, Bh8⟩ | ⟨rfl, Bh8⟩, ⟨thh8, Th8, Mh8⟩, Fh8⟩
  · skip
    obtain rfl := Th8.t
    have Vh8 : am_fr h h8 n (n + 14) := am_fr.tr Vh1 (am_fr.mo Fh8 (by omega) (by omega))
    have Rh8 := Rh1.kept Fh8 (by omega)
    have Kh8 := (Fh8.2 (n + 13) (by omega)).trans Kh1
    obtain ⟨m0h8, m1h8⟩ := id Mh8
    refine AQ.of (AS.if_eq_f eX9_close_10 ⟨by decide, by decide⟩ (by decide) (by decide)) ?_
    refine q_blk (lv2 := [(0, vr n), (1, vi p)]) (st2 := [vi 0]) kX9_close_13 rfl ?_
    exact q_ri rfl eX9_close_14 ⟨0, rfl, Or.inl ⟨1, ⟨2, Or.inl ⟨by omega, rfl⟩, rfl⟩, by decide, ⟨_, _, _, _, _, _, _, _, _, _, _, _, _, Mh8, Rh8, Kh8⟩, Vh8⟩⟩
  · skip
    obtain rfl := Th8.f
    have Vh8 : am_fr h h8 n (n + 14) := am_fr.tr Vh1 (am_fr.mo Fh8 (by omega) (by omega))
    have Rh8 := Rh1.kept Fh8 (by omega)
    have Kh8 := (Fh8.2 (n + 13) (by omega)).trans Kh1
    obtain ⟨m0h8, m1h8⟩ := id Mh8
    refine AQ.of (AS.if_eq_t (tgt := 15) eX9_close_10 (by decide) ⟨by decide, by decide⟩ (by decide)) ?_
    refine q_blk (lv2 := [(0, vr n), (1, vi p)]) (st2 := [vr n, vr n]) kX9_close_15 rfl ?_
    refine q_gr eX9_close_17 fl_RX9_17 (Or.inr ⟨_, rfl⟩) m0h8 rfl ?_
    refine AQ.callVv (av := [vr (n + 2)]) (st := []) (c_X9_push Mh8 hu Rh8 (Or.inl rfl) m1h8) lk_RX9_254 (by decide) rfl rfl Mh8.ob ⟨_, rfl, rfl⟩ (Nat.le_of_ble_eq_true rfl) eX9_close_20 (fun h11 e10 => ?_)
    obtain ⟨ud9, rw9, P9, U9, Mh11, Rh11, Fh11, Zh11⟩ := e10
    have Vh11 : am_fr h h11 n (n + 14) := am_fr.tr Vh8 (am_fr.mo Fh11 (by omega) (by omega))
    have Kh11 := (Fh11.2 (n + 13) (by omega)).trans Kh8
    obtain ⟨m0h11, m1h11⟩ := id Mh11
    refine q_blk (lv2 := [(0, vr n), (1, vi p)]) (st2 := [vi p, vr n]) kX9_close_23 rfl ?_
    refine AQ.callVi (av := [vi p]) (st := []) (c_X9_closeReason Mh11 hD (p := p) (by omega) (by omega)) lk_RX9_223 (by decide) rfl rfl Mh11.ob ⟨_, rfl, rfl⟩ (Nat.le_of_ble_eq_true rfl) eX9_close_25 (fun z12 h14 e13 => ?_)
    obtain ⟨Zh14, ah14, bh14, ch14, dh14, Mh14, Fh14⟩ := e13
    have zrh14 := gm_rL_r Zh14
    have Vh14 : am_fr h h14 n (n + 14) := am_fr.tr Vh11 (am_fr.mo Fh14 (by omega) (by omega))
    have Rh14 := Rh11.kept Fh14 (by omega)
    have Kh14 := (Fh14.2 (n + 13) (by omega)).trans Kh11
    obtain ⟨m0h14, m1h14⟩ := id Mh14
    refine q_blk (lv2 := [(0, vr n), (1, vi p), (2, vi z12)]) (st2 := [vi z12]) kX9_close_28 rfl ?_
    refine AQ.if_le (tgt := 36) eX9_close_30 (by decide) (by first | assumption | exact ⟨by omega, by omega⟩) (fun br15 => ?_) (fun br15 => ?_)
    · skip
      have R0 := Zh14
      rw [show z12 = 0 by omega] at R0
      have r0 := gm_rL_0 R0
      have hn9 := hD.n (p := p) (by omega) (by omega)
      refine q_blk (lv2 := [(0, vr n), (1, vi p), (2, vi z12)]) (st2 := [vr n]) kX9_close_36 rfl ?_
      refine q_gr eX9_close_37 fl_RX9_17 (Or.inr ⟨_, rfl⟩) m0h14 rfl ?_
      refine q_blk (lv2 := [(0, vr n), (1, vi p), (2, vi z12)]) (st2 := [vi p, vr (n + 2)]) kX9_close_40 rfl ?_
      refine q_Si (av := [vi p]) (st := [vr (n + 2)]) c_X9_at lk_RX9_35 (by decide) rfl rfl (Nat.le_of_ble_eq_true rfl) eX9_close_41 (fun z16 e17 => ?_)
      subst e17
      refine q_blk (lv2 := [(0, vr n), (1, vi p), (2, vi z12)]) (st2 := [vi 1, vi ((66 + (27 * p)) + 2), vr (n + 2)]) kX9_close_44 rfl ?_
      refine q_is eX9_close_47 m1h14 (by omega) (by omega) (fun h18 e19 => ?_)
      have k20 := (am_ne e19 n (by omega)).trans m0h14
      have k21 := am_at e19
      have k22 := (am_ne e19 (n + 13) (by omega)).trans Kh14
      have F9s : am_fr _ h18 (n + 2) (n + 3) := am_fr.st e19 (by omega) (by omega)
      have SU := gm_cl_same (p := p) (i := (66 + (27 * p)) + 2) hD (by omega) (by omega) (by omega)
      obtain ⟨SM, UP⟩ := id SU
      obtain ⟨E9, hE9⟩ : ∃ q, q = am_uI D ((66 + (27 * p)) + 2) 1 := ⟨_, rfl⟩
      rw [← hE9] at SM UP
      have M9s : MM h18 n 0 bl tl ps er ea eo ud9 ah14 bh14 ch14 dh14 ns ne se E9 := ⟨k20, by rw [hE9]; exact k21⟩
      have hDc := gm_clP_vd hD (p := p) (by omega) (by omega) (by omega)
      have hD9 := hDc.same SM
      obtain ⟨cm9, hM9⟩ := gm_cms_ex hD9
      have hd9 := hD9.2.2.1
      have e92 : E9 2 = gm_clP D p 2 := SM.2.2.1
      have Vh18 : am_fr h h18 n (n + 14) := am_fr.tr Vh14 (am_fr.mo F9s (by omega) (by omega))
      have Rh18 := Rh14.kept F9s (by omega)
      have Kh18 := (F9s.2 (n + 13) (by omega)).trans Kh14
      obtain ⟨m0h18, m1h18⟩ := id M9s
      refine q_blk (lv2 := [(0, vr n), (1, vi p), (2, vi z12), (3, vi 0), (4, vi 0)]) (st2 := []) kX9_close_48 rfl ?_
      refine am_lp2 (I := fun (s : Int) (k : Int) => (0 ≤ k ∧ k ≤ E9 2) ∧ s = gm_sm (gm_if cm9 p (fun _ => 1)) k.toNat ∧ (0 ≤ s ∧ s ≤ k)) (μ := fun (s : Int) (k : Int) => (E9 2 - k).toNat) (G := fun (s : Int) (k : Int) => AQ w m_X9_close 10 53 [(0, vr n), (1, vi p), (2, vi z12), (3, vi s), (4, vi k)] [] h18 (am_int (fun z h1 => (∃ th', gm_tx (fun _ => 1) (gA_p D p gm_F) th' ∧ th' ≠ 0 ∧ MA h1 n th' bl eo ud bf rw D ∧ am_fr h h1 n (n + 14)) ∨ ((0 ≤ p ∧ p < D 3) ∧ ∃ D2 D' cm' ud' rw', gR_clo D p z D2 cm' ∧ gm_same D2 D' ∧ gm_up D D' ∧ CMS D' cm' ∧ PU ud rw D ud' rw' ∧ (1 ≤ ud' ∧ ud' ≤ 8) ∧ MA h1 n 0 bl eo ud' bf rw' D' ∧ am_fr h h1 n (n + 14))))) ?_ 0 0 (⟨⟨by omega, by omega⟩, rfl, by omega⟩)
      intro s k hI24 ih23
      obtain ⟨⟨k0, k1⟩, hs, hr⟩ := hI24
      refine q_blk (lv2 := [(0, vr n), (1, vi p), (2, vi z12), (3, vi s), (4, vi k)]) (st2 := [vr n, vi k]) kX9_close_53 rfl ?_
      refine q_gr eX9_close_56 fl_RX9_17 (Or.inr ⟨_, rfl⟩) m0h18 rfl ?_
      refine q_blk (lv2 := [(0, vr n), (1, vi p), (2, vi z12), (3, vi s), (4, vi k)]) (st2 := [vi 2, vr (n + 2), vi k]) kX9_close_59 rfl ?_
      refine q_ia eX9_close_60 m1h18 (by decide) (by omega) (by omega) (z := (E9 2)) rfl ?_
      refine AQ.ic_ge (tgt := 88) eX9_close_61 (by decide) (by first | assumption | exact ⟨by omega, by omega⟩) (by first | assumption | exact ⟨by omega, by omega⟩) (fun br25 => ?_) (fun br25 => ?_)
      · skip
        refine q_blk (lv2 := [(0, vr n), (1, vi p), (2, vi z12), (3, vi s), (4, vi k)]) (st2 := [vi s]) kX9_close_88 rfl ?_
        exact q_ri rfl eX9_close_89 ⟨s, rfl, Or.inr ⟨⟨by omega, by omega⟩, (gm_clP D p), E9, cm9, ud9, rw9, ⟨0, R0, Or.inr ⟨rfl, by rw [hs, show k = gm_clP D p 2 by omega], rfl⟩⟩, SM, UP, hM9, P9, U9, ⟨_, _, _, _, _, _, _, _, _, _, _, _, _, M9s, Rh18, Kh18⟩, Vh18⟩⟩
      · skip
        refine q_blk (lv2 := [(0, vr n), (1, vi p), (2, vi z12), (3, vi s), (4, vi k)]) (st2 := [vi k, vr n, vi s]) kX9_close_64 rfl ?_
        refine q_Vi (av := [vi k]) (st := [vi s]) (c_X9_claimerOf M9s hD9 (by omega) (by omega)) lk_RX9_270 (by decide) rfl rfl M9s.ob ⟨_, rfl, rfl⟩ (Nat.le_of_ble_eq_true rfl) eX9_close_68 (fun z26 e27 => ?_)
        have cr9 := e27.2
        have ck9 := gm_cmk hM9 (k := k) (by omega) (by omega) e27.1
        refine q_blk (lv2 := [(0, vr n), (1, vi p), (2, vi z12), (3, vi s), (4, vi k)]) (st2 := [vi p, vi z26, vi s]) kX9_close_71 rfl ?_
        refine AQ.ic_ne (tgt := 79) eX9_close_72 (by decide) (by first | assumption | exact ⟨by omega, by omega⟩) (by first | assumption | exact ⟨by omega, by omega⟩) (fun br28 => ?_) (fun br28 => ?_)
        · skip
          refine q_blk (lv2 := [(0, vr n), (1, vi p), (2, vi z12), (3, vi s), (4, vi k)]) (st2 := [vi 0, vi s]) kX9_close_79 rfl ?_
          refine q_blk (lv2 := [(0, vr n), (1, vi p), (2, vi z12), (3, vi (s + 0)), (4, vi (k + 1))]) (st2 := []) kX9_close_80 rfl ?_
          refine q_goto (tgt := 53) eX9_close_85 (by decide) ?_
          exact ih23 (s + 0) (k + 1) (⟨⟨by omega, by omega⟩, by rw [gm_sm_s _ k0, ← hs, gm_if_1]; split <;> omega, by omega⟩) (by omega)
        · skip
          refine q_blk (lv2 := [(0, vr n), (1, vi p), (2, vi z12), (3, vi s), (4, vi k)]) (st2 := [vi 1, vi s]) kX9_close_75 rfl ?_
          refine q_goto (tgt := 80) eX9_close_76 (by decide) ?_
          refine q_blk (lv2 := [(0, vr n), (1, vi p), (2, vi z12), (3, vi (s + 1)), (4, vi (k + 1))]) (st2 := []) kX9_close_80 rfl ?_
          refine q_goto (tgt := 53) eX9_close_85 (by decide) ?_
          exact ih23 (s + 1) (k + 1) (⟨⟨by omega, by omega⟩, by rw [gm_sm_s _ k0, ← hs, gm_if_1]; split <;> omega, by omega⟩) (by omega)
    · skip
      refine q_blk (lv2 := [(0, vr n), (1, vi p), (2, vi z12)]) (st2 := [vi (-z12)]) kX9_close_33 rfl ?_
      exact q_ri rfl eX9_close_35 ⟨(-z12), rfl, Or.inr ⟨⟨by omega, by omega⟩, D, D, cm, ud9, rw9, ⟨_, Zh14, Or.inl ⟨by omega, rfl, rfl⟩⟩, gm_same.rf, gm_up.rf, hM, P9, U9, ⟨_, _, _, _, _, _, _, _, _, _, _, _, _, Mh14, Rh14, Kh14⟩, Vh14⟩⟩

set_option maxHeartbeats 1000000 in
theorem c_X9_bend {w : am_w} {h : AH} {n : Nat} {th bl eo ud : Int} {bf : Int → Int} {rw : Int → Int → Int} {D : Int → Int} (hA : MA h n th bl eo ud bf rw D) (hD : VD D) (hu : 0 ≤ ud ∧ ud ≤ 8) {cm : Int → Int} (hM : CMS D cm) {p k x y : Int} (r_p : am_r p) (r_k : am_r k) (r_x : am_r x) (r_y : am_r y)  : AE w m_X9_bend 10 [vr n, vi p, vi k, vi x, vi y] h (am_int (fun z h1 => (∃ th', gm_tx (fun k => if k = 2 then 1 else if k = 1 then 2 else 3) (gA_p D p (gA_k D p k (gA_xy D x y gm_F))) th' ∧ th' ≠ 0 ∧ MA h1 n th' bl eo ud bf rw D ∧ am_fr h h1 n (n + 14)) ∨ (((0 ≤ p ∧ p < D 3) ∧ (0 ≤ k ∧ k < pN D p) ∧ (0 ≤ x ∧ x ≤ D 0) ∧ (0 ≤ y ∧ y ≤ D 1)) ∧ ∃ D2 D' cm' ud' rw', gR_ben D p k x y z D2 ∧ gm_same D2 D' ∧ gm_up D D' ∧ CMS D' cm' ∧ PU ud rw D ud' rw' ∧ (1 ≤ ud' ∧ ud' ≤ 8) ∧ MA h1 n 0 bl eo ud' bf rw' D' ∧ am_fr h h1 n (n + 14)))) := by
  refine AE.of wf_X9_bend (Nat.le_of_ble_eq_true rfl) (am_ok_i) ?_
  obtain ⟨tl, ps, er, ea, g0, g1, g2, g3, ns, ne, se, od, sk, hm, hR, hK⟩ := hA
  obtain ⟨m0, m1⟩ := id hm
  have d0 := hD.1
  have d1 := hD.2.1
  have d2 := hD.2.2.1
  have d3 := hD.2.2.2.1
  refine q_blk (lv2 := [(0, vr n), (1, vi p), (2, vi k), (3, vi x), (4, vi y)]) (st2 := [vi 0, vr n]) kX9_bend_0 rfl ?_
  refine q_pi eX9_bend_2 fl_RX9_32 (fun q hq => by cases hq; exact Or.inl rfl) (Or.inl rfl) m0 (Nat.le_of_ble_eq_true rfl) (l2 := [0, 0, bl, tl, ps, er, ea, eo, 0, 0, 0, ud, g0, g1, g2, g3, ns, ne, se, 0]) rfl (fun h1 e2 => ?_)
  have k3 := am_at e2
  have k4 := (am_ne e2 (n + 2) (by omega)).trans m1
  have k5 := (am_ne e2 (n + 13) (by omega)).trans hK
  have M5 : MM h1 n 0 bl tl ps er ea eo ud g0 g1 g2 g3 ns ne se D := ⟨k3, k4⟩
  have F5 : am_fr h h1 n (n + 1) := am_fr.st e2 (by omega) (by omega)
  have Vh1 : am_fr h h1 n (n + 14) := am_fr.mo F5 (by omega) (by omega)
  have Rh1 := hR.kept F5 (by omega)
  have Kh1 := (F5.2 (n + 13) (by omega)).trans hK
  obtain ⟨m0h1, m1h1⟩ := id M5
  refine q_blk (lv2 := [(0, vr n), (1, vi p), (2, vi k), (3, vi x), (4, vi y)]) (st2 := [vi p, vr n]) kX9_bend_5 rfl ?_
  refine AQ.callVi (av := [vi p]) (st := []) (c_X9_noPolygon M5 hD (by first | assumption | exact ⟨by omega, by omega⟩)) lk_RX9_300 (by decide) rfl rfl M5.ob ⟨_, rfl, rfl⟩ (Nat.le_of_ble_eq_true rfl) eX9_bend_7 (fun z6 h8 e7 => ?_)
  rcases e7 with ⟨⟨rfl, Bh8⟩ | ⟨rfl, Bh8⟩, ⟨thh8, Th8, Mh8⟩, Fh8⟩
  · skip
    obtain rfl := Th8.t
    have Vh8 : am_fr h h8 n (n + 14) := am_fr.tr Vh1 (am_fr.mo Fh8 (by omega) (by omega))
    have Rh8 := Rh1.kept Fh8 (by omega)
    have Kh8 := (Fh8.2 (n + 13) (by omega)).trans Kh1
    obtain ⟨m0h8, m1h8⟩ := id Mh8
    refine AQ.of (AS.if_ne_t (tgt := 52) eX9_bend_10 (by decide) ⟨by decide, by decide⟩ (by decide)) ?_
    refine q_blk (lv2 := [(0, vr n), (1, vi p), (2, vi k), (3, vi x), (4, vi y)]) (st2 := [vi 0]) kX9_bend_52 rfl ?_
    exact q_ri rfl eX9_bend_53 ⟨0, rfl, Or.inl ⟨1, ⟨2, Or.inl ⟨by omega, rfl⟩, rfl⟩, by decide, ⟨_, _, _, _, _, _, _, _, _, _, _, _, _, Mh8, Rh8, Kh8⟩, Vh8⟩⟩
  · skip
    obtain rfl := Th8.f
    have Vh8 : am_fr h h8 n (n + 14) := am_fr.tr Vh1 (am_fr.mo Fh8 (by omega) (by omega))
    have Rh8 := Rh1.kept Fh8 (by omega)
    have Kh8 := (Fh8.2 (n + 13) (by omega)).trans Kh1
    obtain ⟨m0h8, m1h8⟩ := id Mh8
    refine AQ.of (AS.if_ne_f eX9_bend_10 ⟨by decide, by decide⟩ (by decide) (by decide)) ?_
    have hn := hD.n (p := p) (by omega) (by omega)
    refine q_blk (lv2 := [(0, vr n), (1, vi p), (2, vi k), (3, vi x), (4, vi y)]) (st2 := [vi p, vr n, vi 0, vi k, vr n]) kX9_bend_13 rfl ?_
    refine q_Vi (av := [vi p]) (st := [vi 0, vi k, vr n]) (c_X9_countOf Mh8 hD (by omega) (by omega)) lk_RX9_39 (by decide) rfl rfl Mh8.ob ⟨_, rfl, rfl⟩ (Nat.le_of_ble_eq_true rfl) eX9_bend_18 (fun z9 e10 => ?_)
    subst e10
    refine q_blk (lv2 := [(0, vr n), (1, vi p), (2, vi k), (3, vi x), (4, vi y)]) (st2 := [vi ((pN D p) - 1), vi 0, vi k, vr n]) kX9_bend_21 rfl ?_
    refine q_Si (av := [vi k, vi 0, vi ((pN D p) - 1)]) (st := [vr n]) (c_X9_in (by first | assumption | exact ⟨by omega, by omega⟩) (by first | assumption | exact ⟨by omega, by omega⟩) (by first | assumption | exact ⟨by omega, by omega⟩)) lk_RX9_57 (by decide) rfl rfl (Nat.le_of_ble_eq_true rfl) eX9_bend_23 (fun z11 e12 => ?_)
    rcases e12 with ⟨rfl, e12⟩ | ⟨rfl, e12⟩
    · skip
      refine AQ.of (AS.if_ne_t (tgt := 33) eX9_bend_26 (by decide) ⟨by decide, by decide⟩ (by decide)) ?_
      refine q_blk (lv2 := [(0, vr n), (1, vi p), (2, vi k), (3, vi x), (4, vi y)]) (st2 := [vi 0, vr n]) kX9_bend_33 rfl ?_
      refine q_blk (lv2 := [(0, vr n), (1, vi p), (2, vi k), (3, vi x), (4, vi y)]) (st2 := [vi 2, vi 0, vr n]) kX9_bend_34 rfl ?_
      refine AQ.callVi (av := [vi 0, vi 2]) (st := []) (c_X9_fails Mh8 (c := 0) (e := 2) (by decide) (by omega)) lk_RX9_241 (by decide) rfl rfl Mh8.ob ⟨_, rfl, rfl⟩ (Nat.le_of_ble_eq_true rfl) eX9_bend_35 (fun z13 h15 e14 => ?_)
      rcases e14 with ⟨⟨rfl, Bh15⟩ | ⟨rfl, Bh15⟩, ⟨thh15, Th15, Mh15⟩, Fh15⟩
      · skip
        obtain rfl := Th15.t
        have Vh15 : am_fr h h15 n (n + 14) := am_fr.tr Vh8 (am_fr.mo Fh15 (by omega) (by omega))
        have Rh15 := Rh8.kept Fh15 (by omega)
        have Kh15 := (Fh15.2 (n + 13) (by omega)).trans Kh8
        obtain ⟨m0h15, m1h15⟩ := id Mh15
        refine AQ.of (AS.if_ne_t (tgt := 52) eX9_bend_38 (by decide) ⟨by decide, by decide⟩ (by decide)) ?_
        refine q_blk (lv2 := [(0, vr n), (1, vi p), (2, vi k), (3, vi x), (4, vi y)]) (st2 := [vi 0]) kX9_bend_52 rfl ?_
        exact q_ri rfl eX9_bend_53 ⟨0, rfl, Or.inl ⟨2, ⟨1, Or.inr ⟨⟨by omega, by omega⟩, Or.inl ⟨by omega, rfl⟩⟩, rfl⟩, by decide, ⟨_, _, _, _, _, _, _, _, _, _, _, _, _, Mh15, Rh15, Kh15⟩, Vh15⟩⟩
      · skip
        obtain rfl := Th15.f
        have Vh15 : am_fr h h15 n (n + 14) := am_fr.tr Vh8 (am_fr.mo Fh15 (by omega) (by omega))
        have Rh15 := Rh8.kept Fh15 (by omega)
        have Kh15 := (Fh15.2 (n + 13) (by omega)).trans Kh8
        obtain ⟨m0h15, m1h15⟩ := id Mh15
        refine AQ.of (AS.if_ne_f eX9_bend_38 ⟨by decide, by decide⟩ (by decide) (by decide)) ?_
        refine q_blk (lv2 := [(0, vr n), (1, vi p), (2, vi k), (3, vi x), (4, vi y)]) (st2 := [vi 3, vi y, vi x, vr n]) kX9_bend_41 rfl ?_
        refine AQ.callVi (av := [vi x, vi y, vi 3]) (st := []) (c_X9_noPoint Mh15 hD (x := x) (y := y) (e := 3) (by first | assumption | exact ⟨by omega, by omega⟩) (by first | assumption | exact ⟨by omega, by omega⟩) (by omega)) lk_RX9_306 (by decide) rfl rfl Mh15.ob ⟨_, rfl, rfl⟩ (Nat.le_of_ble_eq_true rfl) eX9_bend_46 (fun z16 h18 e17 => ?_)
        rcases e17 with ⟨⟨rfl, Bh18⟩ | ⟨rfl, Bh18⟩, ⟨thh18, Th18, Mh18⟩, Fh18⟩
        · skip
          obtain rfl := Th18.t
          have Vh18 : am_fr h h18 n (n + 14) := am_fr.tr Vh15 (am_fr.mo Fh18 (by omega) (by omega))
          have Rh18 := Rh15.kept Fh18 (by omega)
          have Kh18 := (Fh18.2 (n + 13) (by omega)).trans Kh15
          obtain ⟨m0h18, m1h18⟩ := id Mh18
          refine AQ.of (AS.if_eq_f eX9_bend_49 ⟨by decide, by decide⟩ (by decide) (by decide)) ?_
          refine q_blk (lv2 := [(0, vr n), (1, vi p), (2, vi k), (3, vi x), (4, vi y)]) (st2 := [vi 0]) kX9_bend_52 rfl ?_
          exact q_ri rfl eX9_bend_53 ⟨0, rfl, Or.inl ⟨3, ⟨0, Or.inr ⟨⟨by omega, by omega⟩, Or.inr ⟨⟨by omega, by omega⟩, Or.inl ⟨by omega, rfl⟩⟩⟩, rfl⟩, by decide, ⟨_, _, _, _, _, _, _, _, _, _, _, _, _, Mh18, Rh18, Kh18⟩, Vh18⟩⟩
        · skip
          obtain rfl := Th18.f
          have Vh18 : am_fr h h18 n (n + 14) := am_fr.tr Vh15 (am_fr.mo Fh18 (by omega) (by omega))
          have Rh18 := Rh15.kept Fh18 (by omega)
          have Kh18 := (Fh18.2 (n + 13) (by omega)).trans Kh15
          obtain ⟨m0h18, m1h18⟩ := id Mh18
          refine AQ.of (AS.if_eq_t (tgt := 54) eX9_bend_49 (by decide) ⟨by decide, by decide⟩ (by decide)) ?_
          refine q_blk (lv2 := [(0, vr n), (1, vi p), (2, vi k), (3, vi x), (4, vi y)]) (st2 := [vr n, vr n]) kX9_bend_54 rfl ?_
          refine q_gr eX9_bend_56 fl_RX9_17 (Or.inr ⟨_, rfl⟩) m0h18 rfl ?_
          refine AQ.callVv (av := [vr (n + 2)]) (st := []) (c_X9_push Mh18 hu Rh18 (Or.inl rfl) m1h18) lk_RX9_254 (by decide) rfl rfl Mh18.ob ⟨_, rfl, rfl⟩ (Nat.le_of_ble_eq_true rfl) eX9_bend_59 (fun h21 e20 => ?_)
          obtain ⟨ud9, rw9, P9, U9, Mh21, Rh21, Fh21, Zh21⟩ := e20
          have Vh21 : am_fr h h21 n (n + 14) := am_fr.tr Vh18 (am_fr.mo Fh21 (by omega) (by omega))
          have Kh21 := (Fh21.2 (n + 13) (by omega)).trans Kh18
          obtain ⟨m0h21, m1h21⟩ := id Mh21
          refine q_blk (lv2 := [(0, vr n), (1, vi p), (2, vi k), (3, vi x), (4, vi y)]) (st2 := [vi y, vi x, vi k, vi p, vr n]) kX9_bend_62 rfl ?_
          refine AQ.callVi (av := [vi p, vi k, vi x, vi y]) (st := []) (c_X9_bendReason Mh21 hD (p := p) (by omega) (by omega) (k := k) (by omega) (by omega) (x := x) (y := y) ⟨by omega, by omega⟩ ⟨by omega, by omega⟩) lk_RX9_318 (by decide) rfl rfl Mh21.ob ⟨_, rfl, rfl⟩ (Nat.le_of_ble_eq_true rfl) eX9_bend_68 (fun z22 h24 e23 => ?_)
          obtain ⟨Zh24, ah24, bh24, ch24, dh24, Mh24, Fh24⟩ := e23
          have zrh24 := gm_rB_r Zh24
          have Vh24 : am_fr h h24 n (n + 14) := am_fr.tr Vh21 (am_fr.mo Fh24 (by omega) (by omega))
          have Rh24 := Rh21.kept Fh24 (by omega)
          have Kh24 := (Fh24.2 (n + 13) (by omega)).trans Kh21
          obtain ⟨m0h24, m1h24⟩ := id Mh24
          refine q_blk (lv2 := [(0, vr n), (1, vi p), (2, vi k), (3, vi x), (4, vi y), (5, vi z22)]) (st2 := [vi z22]) kX9_bend_71 rfl ?_
          refine AQ.if_le (tgt := 82) eX9_bend_75 (by decide) (by first | assumption | exact ⟨by omega, by omega⟩) (fun br25 => ?_) (fun br25 => ?_)
          · skip
            have R0 := Zh24
            rw [show z22 = 0 by omega] at R0
            have r0 := gm_rB_0 R0
            have hn9 := hD.n (p := p) (by omega) (by omega)
            refine q_blk (lv2 := [(0, vr n), (1, vi p), (2, vi k), (3, vi x), (4, vi y), (5, vi z22)]) (st2 := [vi y, vi x, vi (k + 1), vi p, vr n]) kX9_bend_82 rfl ?_
            refine AQ.callVv (av := [vi p, vi (k + 1), vi x, vi y]) (st := []) (c_X9_putCorner Mh24 (p := p) (k := (k + 1)) (x := x) (y := y) (by omega) (by omega) (by omega) (by omega) (by omega)) lk_RX9_124 (by decide) rfl rfl Mh24.ob ⟨_, rfl, rfl⟩ (Nat.le_of_ble_eq_true rfl) eX9_bend_90 (fun h28 e27 => ?_)
            obtain ⟨Mh28, Fh28⟩ := e27
            have Vh28 : am_fr h h28 n (n + 14) := am_fr.tr Vh24 (am_fr.mo Fh28 (by omega) (by omega))
            have Rh28 := Rh24.kept Fh28 (by omega)
            have Kh28 := (Fh28.2 (n + 13) (by omega)).trans Kh24
            obtain ⟨m0h28, m1h28⟩ := id Mh28
            have SM : gm_same (gm_bnD D p k x y) (gm_ptc D p (k + 1) x y) := gm_ptc_same (by omega) (by omega) (by omega) (by omega) hD.2.2.1 (fun q q0 q1 => by have := hD.n q0 q1; omega)
            have VM := gm_bnD_vd hD (p := p) (k := k) (x := x) (y := y) (by omega) (by omega) r0.1 r0.2.1 (by omega) (by omega) ⟨by omega, by omega⟩ ⟨by omega, by omega⟩
            have hD9 := VM.same SM
            have b3 : gm_bnD D p k x y 3 = D 3 := gm_setP_o (by omega)
            have t3 := SM.2.2.2.1
            obtain ⟨cm9, hM9⟩ := gm_cms_ex hD9
            refine q_blk (lv2 := [(0, vr n), (1, vi p), (2, vi k), (3, vi x), (4, vi y), (5, vi z22)]) (st2 := [vi p, vr n]) kX9_bend_93 rfl ?_
            refine q_Vi (av := [vi p]) (st := []) (c_X9_areaOf Mh28 hD9 (p := p) (by omega) (by omega)) lk_RX9_264 (by decide) rfl rfl Mh28.ob ⟨_, rfl, rfl⟩ (Nat.le_of_ble_eq_true rfl) eX9_bend_95 (fun z29 e30 => ?_)
            exact q_ri rfl eX9_bend_98 ⟨z29, rfl, Or.inr ⟨⟨⟨by omega, by omega⟩, ⟨by omega, by omega⟩, ⟨by omega, by omega⟩, by omega, by omega⟩, (gm_bnD D p k x y), (gm_ptc D p (k + 1) x y), cm9, ud9, rw9, ⟨0, R0, Or.inr ⟨rfl, (e30.1.trans (gm_arD_s SM (by omega) (by omega))), rfl⟩⟩, SM, (gm_ptc_up (by omega) (by omega) (by omega) (by omega) (by omega)), hM9, P9, U9, ⟨_, _, _, _, _, _, _, _, _, _, _, _, _, Mh28, Rh28, Kh28⟩, Vh28⟩⟩
          · skip
            refine q_blk (lv2 := [(0, vr n), (1, vi p), (2, vi k), (3, vi x), (4, vi y), (5, vi z22)]) (st2 := [vi (-z22)]) kX9_bend_78 rfl ?_
            exact q_ri rfl eX9_bend_81 ⟨(-z22), rfl, Or.inr ⟨⟨⟨by omega, by omega⟩, ⟨by omega, by omega⟩, ⟨by omega, by omega⟩, by omega, by omega⟩, D, D, cm, ud9, rw9, ⟨_, Zh24, Or.inl ⟨by omega, rfl, rfl⟩⟩, gm_same.rf, gm_up.rf, hM, P9, U9, ⟨_, _, _, _, _, _, _, _, _, _, _, _, _, Mh24, Rh24, Kh24⟩, Vh24⟩⟩
    · skip
      refine AQ.of (AS.if_ne_f eX9_bend_26 ⟨by decide, by decide⟩ (by decide) (by decide)) ?_
      refine q_blk (lv2 := [(0, vr n), (1, vi p), (2, vi k), (3, vi x), (4, vi y)]) (st2 := [vi 1, vr n]) kX9_bend_29 rfl ?_
      refine q_goto (tgt := 34) eX9_bend_30 (by decide) ?_
      refine q_blk (lv2 := [(0, vr n), (1, vi p), (2, vi k), (3, vi x), (4, vi y)]) (st2 := [vi 2, vi 1, vr n]) kX9_bend_34 rfl ?_
      refine AQ.callVi (av := [vi 1, vi 2]) (st := []) (c_X9_fails Mh8 (c := 1) (e := 2) (by decide) (by omega)) lk_RX9_241 (by decide) rfl rfl Mh8.ob ⟨_, rfl, rfl⟩ (Nat.le_of_ble_eq_true rfl) eX9_bend_35 (fun z31 h33 e32 => ?_)
      rcases e32 with ⟨⟨rfl, Bh33⟩ | ⟨rfl, Bh33⟩, ⟨thh33, Th33, Mh33⟩, Fh33⟩
      · skip
        obtain rfl := Th33.t
        have Vh33 : am_fr h h33 n (n + 14) := am_fr.tr Vh8 (am_fr.mo Fh33 (by omega) (by omega))
        have Rh33 := Rh8.kept Fh33 (by omega)
        have Kh33 := (Fh33.2 (n + 13) (by omega)).trans Kh8
        obtain ⟨m0h33, m1h33⟩ := id Mh33
        refine AQ.of (AS.if_ne_t (tgt := 52) eX9_bend_38 (by decide) ⟨by decide, by decide⟩ (by decide)) ?_
        refine q_blk (lv2 := [(0, vr n), (1, vi p), (2, vi k), (3, vi x), (4, vi y)]) (st2 := [vi 0]) kX9_bend_52 rfl ?_
        exact q_ri rfl eX9_bend_53 ⟨0, rfl, Or.inl ⟨2, ⟨1, Or.inr ⟨⟨by omega, by omega⟩, Or.inl ⟨by omega, rfl⟩⟩, rfl⟩, by decide, ⟨_, _, _, _, _, _, _, _, _, _, _, _, _, Mh33, Rh33, Kh33⟩, Vh33⟩⟩
      · skip
        obtain rfl := Th33.f
        have Vh33 : am_fr h h33 n (n + 14) := am_fr.tr Vh8 (am_fr.mo Fh33 (by omega) (by omega))
        have Rh33 := Rh8.kept Fh33 (by omega)
        have Kh33 := (Fh33.2 (n + 13) (by omega)).trans Kh8
        obtain ⟨m0h33, m1h33⟩ := id Mh33
        refine AQ.of (AS.if_ne_f eX9_bend_38 ⟨by decide, by decide⟩ (by decide) (by decide)) ?_
        refine q_blk (lv2 := [(0, vr n), (1, vi p), (2, vi k), (3, vi x), (4, vi y)]) (st2 := [vi 3, vi y, vi x, vr n]) kX9_bend_41 rfl ?_
        refine AQ.callVi (av := [vi x, vi y, vi 3]) (st := []) (c_X9_noPoint Mh33 hD (x := x) (y := y) (e := 3) (by first | assumption | exact ⟨by omega, by omega⟩) (by first | assumption | exact ⟨by omega, by omega⟩) (by omega)) lk_RX9_306 (by decide) rfl rfl Mh33.ob ⟨_, rfl, rfl⟩ (Nat.le_of_ble_eq_true rfl) eX9_bend_46 (fun z34 h36 e35 => ?_)
        rcases e35 with ⟨⟨rfl, Bh36⟩ | ⟨rfl, Bh36⟩, ⟨thh36, Th36, Mh36⟩, Fh36⟩
        · skip
          obtain rfl := Th36.t
          have Vh36 : am_fr h h36 n (n + 14) := am_fr.tr Vh33 (am_fr.mo Fh36 (by omega) (by omega))
          have Rh36 := Rh33.kept Fh36 (by omega)
          have Kh36 := (Fh36.2 (n + 13) (by omega)).trans Kh33
          obtain ⟨m0h36, m1h36⟩ := id Mh36
          refine AQ.of (AS.if_eq_f eX9_bend_49 ⟨by decide, by decide⟩ (by decide) (by decide)) ?_
          refine q_blk (lv2 := [(0, vr n), (1, vi p), (2, vi k), (3, vi x), (4, vi y)]) (st2 := [vi 0]) kX9_bend_52 rfl ?_
          exact q_ri rfl eX9_bend_53 ⟨0, rfl, Or.inl ⟨3, ⟨0, Or.inr ⟨⟨by omega, by omega⟩, Or.inr ⟨⟨by omega, by omega⟩, Or.inl ⟨by omega, rfl⟩⟩⟩, rfl⟩, by decide, ⟨_, _, _, _, _, _, _, _, _, _, _, _, _, Mh36, Rh36, Kh36⟩, Vh36⟩⟩
        · skip
          obtain rfl := Th36.f
          have Vh36 : am_fr h h36 n (n + 14) := am_fr.tr Vh33 (am_fr.mo Fh36 (by omega) (by omega))
          have Rh36 := Rh33.kept Fh36 (by omega)
          have Kh36 := (Fh36.2 (n + 13) (by omega)).trans Kh33
          obtain ⟨m0h36, m1h36⟩ := id Mh36
          refine AQ.of (AS.if_eq_t (tgt := 54) eX9_bend_49 (by decide) ⟨by decide, by decide⟩ (by decide)) ?_
          refine q_blk (lv2 := [(0, vr n), (1, vi p), (2, vi k), (3, vi x), (4, vi y)]) (st2 := [vr n, vr n]) kX9_bend_54 rfl ?_
          refine q_gr eX9_bend_56 fl_RX9_17 (Or.inr ⟨_, rfl⟩) m0h36 rfl ?_
          refine AQ.callVv (av := [vr (n + 2)]) (st := []) (c_X9_push Mh36 hu Rh36 (Or.inl rfl) m1h36) lk_RX9_254 (by decide) rfl rfl Mh36.ob ⟨_, rfl, rfl⟩ (Nat.le_of_ble_eq_true rfl) eX9_bend_59 (fun h39 e38 => ?_)
          obtain ⟨ud9, rw9, P9, U9, Mh39, Rh39, Fh39, Zh39⟩ := e38
          have Vh39 : am_fr h h39 n (n + 14) := am_fr.tr Vh36 (am_fr.mo Fh39 (by omega) (by omega))
          have Kh39 := (Fh39.2 (n + 13) (by omega)).trans Kh36
          obtain ⟨m0h39, m1h39⟩ := id Mh39
          refine q_blk (lv2 := [(0, vr n), (1, vi p), (2, vi k), (3, vi x), (4, vi y)]) (st2 := [vi y, vi x, vi k, vi p, vr n]) kX9_bend_62 rfl ?_
          refine AQ.callVi (av := [vi p, vi k, vi x, vi y]) (st := []) (c_X9_bendReason Mh39 hD (p := p) (by omega) (by omega) (k := k) (by omega) (by omega) (x := x) (y := y) ⟨by omega, by omega⟩ ⟨by omega, by omega⟩) lk_RX9_318 (by decide) rfl rfl Mh39.ob ⟨_, rfl, rfl⟩ (Nat.le_of_ble_eq_true rfl) eX9_bend_68 (fun z40 h42 e41 => ?_)
          obtain ⟨Zh42, ah42, bh42, ch42, dh42, Mh42, Fh42⟩ := e41
          have zrh42 := gm_rB_r Zh42
          have Vh42 : am_fr h h42 n (n + 14) := am_fr.tr Vh39 (am_fr.mo Fh42 (by omega) (by omega))
          have Rh42 := Rh39.kept Fh42 (by omega)
          have Kh42 := (Fh42.2 (n + 13) (by omega)).trans Kh39
          obtain ⟨m0h42, m1h42⟩ := id Mh42
          refine q_blk (lv2 := [(0, vr n), (1, vi p), (2, vi k), (3, vi x), (4, vi y), (5, vi z40)]) (st2 := [vi z40]) kX9_bend_71 rfl ?_
          refine AQ.if_le (tgt := 82) eX9_bend_75 (by decide) (by first | assumption | exact ⟨by omega, by omega⟩) (fun br43 => ?_) (fun br43 => ?_)
          · skip
            have R0 := Zh42
            rw [show z40 = 0 by omega] at R0
            have r0 := gm_rB_0 R0
            have hn9 := hD.n (p := p) (by omega) (by omega)
            refine q_blk (lv2 := [(0, vr n), (1, vi p), (2, vi k), (3, vi x), (4, vi y), (5, vi z40)]) (st2 := [vi y, vi x, vi (k + 1), vi p, vr n]) kX9_bend_82 rfl ?_
            refine AQ.callVv (av := [vi p, vi (k + 1), vi x, vi y]) (st := []) (c_X9_putCorner Mh42 (p := p) (k := (k + 1)) (x := x) (y := y) (by omega) (by omega) (by omega) (by omega) (by omega)) lk_RX9_124 (by decide) rfl rfl Mh42.ob ⟨_, rfl, rfl⟩ (Nat.le_of_ble_eq_true rfl) eX9_bend_90 (fun h46 e45 => ?_)
            obtain ⟨Mh46, Fh46⟩ := e45
            have Vh46 : am_fr h h46 n (n + 14) := am_fr.tr Vh42 (am_fr.mo Fh46 (by omega) (by omega))
            have Rh46 := Rh42.kept Fh46 (by omega)
            have Kh46 := (Fh46.2 (n + 13) (by omega)).trans Kh42
            obtain ⟨m0h46, m1h46⟩ := id Mh46
            have SM : gm_same (gm_bnD D p k x y) (gm_ptc D p (k + 1) x y) := gm_ptc_same (by omega) (by omega) (by omega) (by omega) hD.2.2.1 (fun q q0 q1 => by have := hD.n q0 q1; omega)
            have VM := gm_bnD_vd hD (p := p) (k := k) (x := x) (y := y) (by omega) (by omega) r0.1 r0.2.1 (by omega) (by omega) ⟨by omega, by omega⟩ ⟨by omega, by omega⟩
            have hD9 := VM.same SM
            have b3 : gm_bnD D p k x y 3 = D 3 := gm_setP_o (by omega)
            have t3 := SM.2.2.2.1
            obtain ⟨cm9, hM9⟩ := gm_cms_ex hD9
            refine q_blk (lv2 := [(0, vr n), (1, vi p), (2, vi k), (3, vi x), (4, vi y), (5, vi z40)]) (st2 := [vi p, vr n]) kX9_bend_93 rfl ?_
            refine q_Vi (av := [vi p]) (st := []) (c_X9_areaOf Mh46 hD9 (p := p) (by omega) (by omega)) lk_RX9_264 (by decide) rfl rfl Mh46.ob ⟨_, rfl, rfl⟩ (Nat.le_of_ble_eq_true rfl) eX9_bend_95 (fun z47 e48 => ?_)
            exact q_ri rfl eX9_bend_98 ⟨z47, rfl, Or.inr ⟨⟨⟨by omega, by omega⟩, ⟨by omega, by omega⟩, ⟨by omega, by omega⟩, by omega, by omega⟩, (gm_bnD D p k x y), (gm_ptc D p (k + 1) x y), cm9, ud9, rw9, ⟨0, R0, Or.inr ⟨rfl, (e48.1.trans (gm_arD_s SM (by omega) (by omega))), rfl⟩⟩, SM, (gm_ptc_up (by omega) (by omega) (by omega) (by omega) (by omega)), hM9, P9, U9, ⟨_, _, _, _, _, _, _, _, _, _, _, _, _, Mh46, Rh46, Kh46⟩, Vh46⟩⟩
          · skip
            refine q_blk (lv2 := [(0, vr n), (1, vi p), (2, vi k), (3, vi x), (4, vi y), (5, vi z40)]) (st2 := [vi (-z40)]) kX9_bend_78 rfl ?_
            exact q_ri rfl eX9_bend_81 ⟨(-z40), rfl, Or.inr ⟨⟨⟨by omega, by omega⟩, ⟨by omega, by omega⟩, ⟨by omega, by omega⟩, by omega, by omega⟩, D, D, cm, ud9, rw9, ⟨_, Zh42, Or.inl ⟨by omega, rfl, rfl⟩⟩, gm_same.rf, gm_up.rf, hM, P9, U9, ⟨_, _, _, _, _, _, _, _, _, _, _, _, _, Mh42, Rh42, Kh42⟩, Vh42⟩⟩

theorem gm_tko_e {D E : Int → Int} {p k i : Int} (hE : ∀ j, E j = if j = 67 + 27 * p then pN D p - 1 else if 69 + 27 * p + 2 * k ≤ j ∧ j < 69 + 27 * p + i then D (j + 2) else D j) (hi : 2 * (pN D p - 1) ≤ i) (hi2 : i ≤ 2 * (pN D p - 1)) : E = gm_tko D p k := by
  funext j
  rw [hE]
  unfold gm_tko
  by_cases c : j = 67 + 27 * p
  · rw [if_pos c, if_pos c, c]; rfl
  · rw [if_neg c, if_neg c, show i = 2 * (pN D p - 1) by omega]
theorem gm_tko_0 {D : Int → Int} {p k j : Int} : am_uI D ((66 + (27 * p)) + 1) ((D ((66 + (27 * p)) + 1)) - 1) j = if j = 67 + 27 * p then pN D p - 1 else if 69 + 27 * p + 2 * k ≤ j ∧ j < 69 + 27 * p + 2 * k then D (j + 2) else D j := by
  unfold am_uI
  rw [show (66 + 27 * p) + 1 = 67 + 27 * p by omega]
  by_cases c : j = 67 + 27 * p
  · rw [if_pos c, if_pos c]; rfl
  · rw [if_neg c, if_neg c, if_neg (by omega)]
set_option maxHeartbeats 4000000 in
theorem c_X9_takeOut {w : am_w} {h : AH} {n : Nat} {th bl eo ud : Int} {bf : Int → Int} {rw : Int → Int → Int} {D : Int → Int} (hA : MA h n th bl eo ud bf rw D) (hD : VD D) (hu : 0 ≤ ud ∧ ud ≤ 8) {cm : Int → Int} (hM : CMS D cm) {p k : Int} (r_p : am_r p) (r_k : am_r k)  : AE w m_X9_takeOut 10 [vr n, vi p, vi k] h (am_int (fun z h1 => (∃ th', gm_tx (fun k => if k = 2 then 1 else 2) (gA_p D p (gA_k D p k gm_F)) th' ∧ th' ≠ 0 ∧ MA h1 n th' bl eo ud bf rw D ∧ am_fr h h1 n (n + 14)) ∨ (((0 ≤ p ∧ p < D 3) ∧ (0 ≤ k ∧ k < pN D p)) ∧ ∃ D2 D' cm' ud' rw', gR_out D p k z D2 ∧ gm_same D2 D' ∧ gm_up D D' ∧ CMS D' cm' ∧ PU ud rw D ud' rw' ∧ (1 ≤ ud' ∧ ud' ≤ 8) ∧ MA h1 n 0 bl eo ud' bf rw' D' ∧ am_fr h h1 n (n + 14)))) := by
  refine AE.of wf_X9_takeOut (Nat.le_of_ble_eq_true rfl) (am_ok_i) ?_
  obtain ⟨tl, ps, er, ea, g0, g1, g2, g3, ns, ne, se, od, sk, hm, hR, hK⟩ := hA
  obtain ⟨m0, m1⟩ := id hm
  have d0 := hD.1
  have d1 := hD.2.1
  have d2 := hD.2.2.1
  have d3 := hD.2.2.2.1
  refine q_blk (lv2 := [(0, vr n), (1, vi p), (2, vi k)]) (st2 := [vi 0, vr n]) kX9_takeOut_0 rfl ?_
  refine q_pi eX9_takeOut_2 fl_RX9_32 (fun q hq => by cases hq; exact Or.inl rfl) (Or.inl rfl) m0 (Nat.le_of_ble_eq_true rfl) (l2 := [0, 0, bl, tl, ps, er, ea, eo, 0, 0, 0, ud, g0, g1, g2, g3, ns, ne, se, 0]) rfl (fun h1 e2 => ?_)
  have k3 := am_at e2
  have k4 := (am_ne e2 (n + 2) (by omega)).trans m1
  have k5 := (am_ne e2 (n + 13) (by omega)).trans hK
  have M5 : MM h1 n 0 bl tl ps er ea eo ud g0 g1 g2 g3 ns ne se D := ⟨k3, k4⟩
  have F5 : am_fr h h1 n (n + 1) := am_fr.st e2 (by omega) (by omega)
  have Vh1 : am_fr h h1 n (n + 14) := am_fr.mo F5 (by omega) (by omega)
  have Rh1 := hR.kept F5 (by omega)
  have Kh1 := (F5.2 (n + 13) (by omega)).trans hK
  obtain ⟨m0h1, m1h1⟩ := id M5
  refine q_blk (lv2 := [(0, vr n), (1, vi p), (2, vi k)]) (st2 := [vi p, vr n]) kX9_takeOut_5 rfl ?_
  refine AQ.callVi (av := [vi p]) (st := []) (c_X9_noPolygon M5 hD (by first | assumption | exact ⟨by omega, by omega⟩)) lk_RX9_300 (by decide) rfl rfl M5.ob ⟨_, rfl, rfl⟩ (Nat.le_of_ble_eq_true rfl) eX9_takeOut_7 (fun z6 h8 e7 => ?_)
  rcases e7 with ⟨⟨rfl, Bh8⟩ | ⟨rfl, Bh8⟩, ⟨thh8, Th8, Mh8⟩, Fh8⟩
  · skip
    obtain rfl := Th8.t
    have Vh8 : am_fr h h8 n (n + 14) := am_fr.tr Vh1 (am_fr.mo Fh8 (by omega) (by omega))
    have Rh8 := Rh1.kept Fh8 (by omega)
    have Kh8 := (Fh8.2 (n + 13) (by omega)).trans Kh1
    obtain ⟨m0h8, m1h8⟩ := id Mh8
    refine AQ.of (AS.if_ne_t (tgt := 41) eX9_takeOut_10 (by decide) ⟨by decide, by decide⟩ (by decide)) ?_
    refine q_blk (lv2 := [(0, vr n), (1, vi p), (2, vi k)]) (st2 := [vi 0]) kX9_takeOut_41 rfl ?_
    exact q_ri rfl eX9_takeOut_42 ⟨0, rfl, Or.inl ⟨1, ⟨2, Or.inl ⟨by omega, rfl⟩, rfl⟩, by decide, ⟨_, _, _, _, _, _, _, _, _, _, _, _, _, Mh8, Rh8, Kh8⟩, Vh8⟩⟩
  · skip
    obtain rfl := Th8.f
    have Vh8 : am_fr h h8 n (n + 14) := am_fr.tr Vh1 (am_fr.mo Fh8 (by omega) (by omega))
    have Rh8 := Rh1.kept Fh8 (by omega)
    have Kh8 := (Fh8.2 (n + 13) (by omega)).trans Kh1
    obtain ⟨m0h8, m1h8⟩ := id Mh8
    refine AQ.of (AS.if_ne_f eX9_takeOut_10 ⟨by decide, by decide⟩ (by decide) (by decide)) ?_
    have hn := hD.n (p := p) (by omega) (by omega)
    refine q_blk (lv2 := [(0, vr n), (1, vi p), (2, vi k)]) (st2 := [vi p, vr n, vi 0, vi k, vr n]) kX9_takeOut_13 rfl ?_
    refine q_Vi (av := [vi p]) (st := [vi 0, vi k, vr n]) (c_X9_countOf0 Mh8 (p := p) (by omega) (by omega)) lk_RX9_39 (by decide) rfl rfl Mh8.ob ⟨_, rfl, rfl⟩ (Nat.le_of_ble_eq_true rfl) eX9_takeOut_18 (fun z9 e10 => ?_)
    subst e10
    refine q_blk (lv2 := [(0, vr n), (1, vi p), (2, vi k)]) (st2 := [vi ((pN D p) - 1), vi 0, vi k, vr n]) kX9_takeOut_21 rfl ?_
    refine q_Si (av := [vi k, vi 0, vi ((pN D p) - 1)]) (st := [vr n]) (c_X9_in (by first | assumption | exact ⟨by omega, by omega⟩) (by first | assumption | exact ⟨by omega, by omega⟩) (by first | assumption | exact ⟨by omega, by omega⟩)) lk_RX9_57 (by decide) rfl rfl (Nat.le_of_ble_eq_true rfl) eX9_takeOut_23 (fun z11 e12 => ?_)
    rcases e12 with ⟨rfl, e12⟩ | ⟨rfl, e12⟩
    · skip
      refine AQ.of (AS.if_ne_t (tgt := 33) eX9_takeOut_26 (by decide) ⟨by decide, by decide⟩ (by decide)) ?_
      refine q_blk (lv2 := [(0, vr n), (1, vi p), (2, vi k)]) (st2 := [vi 0, vr n]) kX9_takeOut_33 rfl ?_
      refine q_blk (lv2 := [(0, vr n), (1, vi p), (2, vi k)]) (st2 := [vi 2, vi 0, vr n]) kX9_takeOut_34 rfl ?_
      refine AQ.callVi (av := [vi 0, vi 2]) (st := []) (c_X9_fails Mh8 (c := 0) (e := 2) (by decide) (by omega)) lk_RX9_241 (by decide) rfl rfl Mh8.ob ⟨_, rfl, rfl⟩ (Nat.le_of_ble_eq_true rfl) eX9_takeOut_35 (fun z13 h15 e14 => ?_)
      rcases e14 with ⟨⟨rfl, Bh15⟩ | ⟨rfl, Bh15⟩, ⟨thh15, Th15, Mh15⟩, Fh15⟩
      · skip
        obtain rfl := Th15.t
        have Vh15 : am_fr h h15 n (n + 14) := am_fr.tr Vh8 (am_fr.mo Fh15 (by omega) (by omega))
        have Rh15 := Rh8.kept Fh15 (by omega)
        have Kh15 := (Fh15.2 (n + 13) (by omega)).trans Kh8
        obtain ⟨m0h15, m1h15⟩ := id Mh15
        refine AQ.of (AS.if_eq_f eX9_takeOut_38 ⟨by decide, by decide⟩ (by decide) (by decide)) ?_
        refine q_blk (lv2 := [(0, vr n), (1, vi p), (2, vi k)]) (st2 := [vi 0]) kX9_takeOut_41 rfl ?_
        exact q_ri rfl eX9_takeOut_42 ⟨0, rfl, Or.inl ⟨2, ⟨1, Or.inr ⟨⟨by omega, by omega⟩, Or.inl ⟨by omega, rfl⟩⟩, rfl⟩, by decide, ⟨_, _, _, _, _, _, _, _, _, _, _, _, _, Mh15, Rh15, Kh15⟩, Vh15⟩⟩
      · skip
        obtain rfl := Th15.f
        have Vh15 : am_fr h h15 n (n + 14) := am_fr.tr Vh8 (am_fr.mo Fh15 (by omega) (by omega))
        have Rh15 := Rh8.kept Fh15 (by omega)
        have Kh15 := (Fh15.2 (n + 13) (by omega)).trans Kh8
        obtain ⟨m0h15, m1h15⟩ := id Mh15
        refine AQ.of (AS.if_eq_t (tgt := 43) eX9_takeOut_38 (by decide) ⟨by decide, by decide⟩ (by decide)) ?_
        refine q_blk (lv2 := [(0, vr n), (1, vi p), (2, vi k)]) (st2 := [vr n, vr n]) kX9_takeOut_43 rfl ?_
        refine q_gr eX9_takeOut_45 fl_RX9_17 (Or.inr ⟨_, rfl⟩) m0h15 rfl ?_
        refine AQ.callVv (av := [vr (n + 2)]) (st := []) (c_X9_push Mh15 hu Rh15 (Or.inl rfl) m1h15) lk_RX9_254 (by decide) rfl rfl Mh15.ob ⟨_, rfl, rfl⟩ (Nat.le_of_ble_eq_true rfl) eX9_takeOut_48 (fun h18 e17 => ?_)
        obtain ⟨ud9, rw9, P9, U9, Mh18, Rh18, Fh18, Zh18⟩ := e17
        have Vh18 : am_fr h h18 n (n + 14) := am_fr.tr Vh15 (am_fr.mo Fh18 (by omega) (by omega))
        have Kh18 := (Fh18.2 (n + 13) (by omega)).trans Kh15
        obtain ⟨m0h18, m1h18⟩ := id Mh18
        refine q_blk (lv2 := [(0, vr n), (1, vi p), (2, vi k)]) (st2 := [vi k, vi p, vr n]) kX9_takeOut_51 rfl ?_
        refine AQ.callVi (av := [vi p, vi k]) (st := []) (c_X9_outReason Mh18 hD (p := p) (by omega) (by omega) (k := k) (by omega) (by omega)) lk_RX9_321 (by decide) rfl rfl Mh18.ob ⟨_, rfl, rfl⟩ (Nat.le_of_ble_eq_true rfl) eX9_takeOut_54 (fun z19 h21 e20 => ?_)
        obtain ⟨Zh21, ah21, bh21, ch21, dh21, Mh21, Fh21⟩ := e20
        have zrh21 := gm_rT_r Zh21
        have Vh21 : am_fr h h21 n (n + 14) := am_fr.tr Vh18 (am_fr.mo Fh21 (by omega) (by omega))
        have Rh21 := Rh18.kept Fh21 (by omega)
        have Kh21 := (Fh21.2 (n + 13) (by omega)).trans Kh18
        obtain ⟨m0h21, m1h21⟩ := id Mh21
        refine q_blk (lv2 := [(0, vr n), (1, vi p), (2, vi k), (3, vi z19)]) (st2 := [vi z19]) kX9_takeOut_57 rfl ?_
        refine AQ.if_le (tgt := 65) eX9_takeOut_59 (by decide) (by first | assumption | exact ⟨by omega, by omega⟩) (fun br22 => ?_) (fun br22 => ?_)
        · skip
          have R0 := Zh21
          rw [show z19 = 0 by omega] at R0
          have r0 := gm_rT_0 R0
          have hn9 := hD.n (p := p) (by omega) (by omega)
          refine q_blk (lv2 := [(0, vr n), (1, vi p), (2, vi k), (3, vi z19)]) (st2 := [vi p]) kX9_takeOut_65 rfl ?_
          refine q_Si (av := [vi p]) (st := []) c_X9_at lk_RX9_35 (by decide) rfl rfl (Nat.le_of_ble_eq_true rfl) eX9_takeOut_66 (fun z23 e24 => ?_)
          subst e24
          refine q_blk (lv2 := [(0, vr n), (1, vi p), (2, vi k), (3, vi z19), (4, vi (66 + (27 * p)))]) (st2 := [vr n]) kX9_takeOut_69 rfl ?_
          refine q_gr eX9_takeOut_72 fl_RX9_17 (Or.inr ⟨_, rfl⟩) m0h21 rfl ?_
          refine q_blk (lv2 := [(0, vr n), (1, vi p), (2, vi k), (3, vi z19), (4, vi (66 + (27 * p)))]) (st2 := [vi ((66 + (27 * p)) + 1), vr (n + 2), vi ((66 + (27 * p)) + 1), vr (n + 2)]) kX9_takeOut_75 rfl ?_
          refine q_ia eX9_takeOut_80 m1h21 (by decide) (by omega) (by omega) (z := (D ((66 + (27 * p)) + 1))) rfl ?_
          refine q_blk (lv2 := [(0, vr n), (1, vi p), (2, vi k), (3, vi z19), (4, vi (66 + (27 * p)))]) (st2 := [vi ((D ((66 + (27 * p)) + 1)) - 1), vi ((66 + (27 * p)) + 1), vr (n + 2)]) kX9_takeOut_81 rfl ?_
          refine q_is eX9_takeOut_83 m1h21 (by omega) (by omega) (fun h25 e26 => ?_)
          have k27 := (am_ne e26 n (by omega)).trans m0h21
          have k28 := am_at e26
          have k29 := (am_ne e26 (n + 13) (by omega)).trans Kh21
          have F9s : am_fr _ h25 (n + 2) (n + 3) := am_fr.st e26 (by omega) (by omega)
          obtain ⟨E8, hE8⟩ : ∃ q, q = am_uI D ((66 + (27 * p)) + 1) ((D ((66 + (27 * p)) + 1)) - 1) := ⟨_, rfl⟩
          have M9s : MM h25 n 0 bl tl ps er ea eo ud9 ah21 bh21 ch21 dh21 ns ne se E8 := ⟨k27, by rw [hE8]; exact k28⟩
          have Vh25 : am_fr h h25 n (n + 14) := am_fr.tr Vh21 (am_fr.mo F9s (by omega) (by omega))
          have Rh25 := Rh21.kept F9s (by omega)
          have Kh25 := (F9s.2 (n + 13) (by omega)).trans Kh21
          obtain ⟨m0h25, m1h25⟩ := id M9s
          refine q_blk (lv2 := [(0, vr n), (1, vi p), (2, vi k), (3, vi z19), (4, vi (66 + (27 * p))), (5, vi (2 * k))]) (st2 := []) kX9_takeOut_84 rfl ?_
          refine am_lp3 (I := fun (i : Int) (hh : AH) (E9 : Int → Int) => (2 * k ≤ i ∧ i ≤ 2 * (pN D p - 1)) ∧ MM hh n 0 bl tl ps er ea eo ud9 ah21 bh21 ch21 dh21 ns ne se E9 ∧ MRX hh n bf od rw9 ∧ hh.1 (n + 13) = some (102, 1300, sk, am_N) ∧ am_fr h hh n (n + 14) ∧ ∀ j, E9 j = if j = 67 + 27 * p then pN D p - 1 else if 69 + 27 * p + 2 * k ≤ j ∧ j < 69 + 27 * p + i then D (j + 2) else D j) (μ := fun (i : Int) (hh : AH) (E9 : Int → Int) => (2 * (pN D p - 1) - i).toNat) (G := fun (i : Int) (hh : AH) (E9 : Int → Int) => AQ w m_X9_takeOut 10 89 [(0, vr n), (1, vi p), (2, vi k), (3, vi z19), (4, vi (66 + (27 * p))), (5, vi i)] [] hh (am_int (fun z h1 => (∃ th', gm_tx (fun k => if k = 2 then 1 else 2) (gA_p D p (gA_k D p k gm_F)) th' ∧ th' ≠ 0 ∧ MA h1 n th' bl eo ud bf rw D ∧ am_fr h h1 n (n + 14)) ∨ (((0 ≤ p ∧ p < D 3) ∧ (0 ≤ k ∧ k < pN D p)) ∧ ∃ D2 D' cm' ud' rw', gR_out D p k z D2 ∧ gm_same D2 D' ∧ gm_up D D' ∧ CMS D' cm' ∧ PU ud rw D ud' rw' ∧ (1 ≤ ud' ∧ ud' ≤ 8) ∧ MA h1 n 0 bl eo ud' bf rw' D' ∧ am_fr h h1 n (n + 14))))) ?_ (2 * k) h25 E8 (⟨⟨by omega, by omega⟩, M9s, Rh25, Kh25, Vh25, fun j => by rw [hE8]; exact gm_tko_0⟩)
          intro i hh E9 hI31 ih30
          obtain ⟨⟨i0, i1⟩, hm9, hR9, hK9, hF9, hE9⟩ := hI31
          obtain ⟨m0', m1'⟩ := id hm9
          have e9n : pN E9 p = pN D p - 1 := by show E9 _ = _; rw [hE9, if_pos rfl]
          refine q_blk (lv2 := [(0, vr n), (1, vi p), (2, vi k), (3, vi z19), (4, vi (66 + (27 * p))), (5, vi i)]) (st2 := [vi p, vr n, vi 2, vi i]) kX9_takeOut_89 rfl ?_
          refine q_Vi (av := [vi p]) (st := [vi 2, vi i]) (c_X9_countOf0 hm9 (p := p) (by omega) (by omega)) lk_RX9_39 (by decide) rfl rfl hm9.ob ⟨_, rfl, rfl⟩ (Nat.le_of_ble_eq_true rfl) eX9_takeOut_94 (fun z32 e33 => ?_)
          subst e33
          refine q_blk (lv2 := [(0, vr n), (1, vi p), (2, vi k), (3, vi z19), (4, vi (66 + (27 * p))), (5, vi i)]) (st2 := [vi (2 * (pN E9 p)), vi i]) kX9_takeOut_97 rfl ?_
          refine AQ.ic_ge (tgt := 133) eX9_takeOut_98 (by decide) (by first | assumption | exact ⟨by omega, by omega⟩) (by first | assumption | exact ⟨by omega, by omega⟩) (fun br34 => ?_) (fun br34 => ?_)
          · skip
            have hT9 : E9 = gm_tko D p k := gm_tko_e hE9 (by omega) (by omega)
            rw [hT9] at hm9
            have SM := gm_tko_same hD (p := p) (k := k) (by omega) (by omega) (by omega)
            have VM := gm_toD_vd hD (p := p) (k := k) (by omega) (by omega) r0.1 r0.2 (by omega) (by omega)
            have hD9 := VM.same SM
            have b3 : gm_toD D p k 3 = D 3 := gm_setP_o (by omega)
            have t3 := SM.2.2.2.1
            obtain ⟨cm9, hM9⟩ := gm_cms_ex hD9
            refine q_blk (lv2 := [(0, vr n), (1, vi p), (2, vi k), (3, vi z19), (4, vi (66 + (27 * p))), (5, vi i)]) (st2 := [vi p, vr n]) kX9_takeOut_133 rfl ?_
            refine q_Vi (av := [vi p]) (st := []) (c_X9_areaOf hm9 hD9 (p := p) (by omega) (by omega)) lk_RX9_264 (by decide) rfl rfl hm9.ob ⟨_, rfl, rfl⟩ (Nat.le_of_ble_eq_true rfl) eX9_takeOut_135 (fun z35 e36 => ?_)
            exact q_ri rfl eX9_takeOut_138 ⟨z35, rfl, Or.inr ⟨⟨⟨by omega, by omega⟩, ⟨by omega, by omega⟩⟩, (gm_toD D p k), (gm_tko D p k), cm9, ud9, rw9, ⟨0, R0, Or.inr ⟨rfl, (e36.1.trans (gm_arD_s SM (by omega) (by omega))), rfl⟩⟩, SM, (gm_tko_up (by omega) (by omega) (by omega) (by omega)), hM9, P9, U9, ⟨_, _, _, _, _, _, _, _, _, _, _, _, _, hm9, hR9, hK9⟩, hF9⟩⟩
          · skip
            refine q_blk (lv2 := [(0, vr n), (1, vi p), (2, vi k), (3, vi z19), (4, vi (66 + (27 * p))), (5, vi i)]) (st2 := [vr n]) kX9_takeOut_101 rfl ?_
            refine q_gr eX9_takeOut_102 fl_RX9_17 (Or.inr ⟨_, rfl⟩) m0' rfl ?_
            refine q_blk (lv2 := [(0, vr n), (1, vi p), (2, vi k), (3, vi z19), (4, vi (66 + (27 * p))), (5, vi i)]) (st2 := [vr n, vi (((66 + (27 * p)) + 3) + i), vr (n + 2)]) kX9_takeOut_105 rfl ?_
            refine q_gr eX9_takeOut_113 fl_RX9_17 (Or.inr ⟨_, rfl⟩) m0' rfl ?_
            refine q_blk (lv2 := [(0, vr n), (1, vi p), (2, vi k), (3, vi z19), (4, vi (66 + (27 * p))), (5, vi i)]) (st2 := [vi ((((66 + (27 * p)) + 3) + i) + 2), vr (n + 2), vi (((66 + (27 * p)) + 3) + i), vr (n + 2)]) kX9_takeOut_116 rfl ?_
            refine q_ia eX9_takeOut_125 m1' (by decide) (by omega) (by omega) (z := (E9 ((((66 + (27 * p)) + 3) + i) + 2))) rfl ?_
            refine q_is eX9_takeOut_126 m1' (by omega) (by omega) (fun h37 e38 => ?_)
            have k39 := (am_ne e38 n (by omega)).trans m0'
            have k40 := am_at e38
            refine q_blk (lv2 := [(0, vr n), (1, vi p), (2, vi k), (3, vi z19), (4, vi (66 + (27 * p))), (5, vi (i + 1))]) (st2 := []) kX9_takeOut_127 rfl ?_
            refine q_goto (tgt := 89) eX9_takeOut_130 (by decide) ?_
            exact ih30 (i + 1) h37 (am_uI E9 (((66 + (27 * p)) + 3) + i) (E9 ((((66 + (27 * p)) + 3) + i) + 2))) (⟨⟨by omega, by omega⟩, ⟨k39, k40⟩, hR9.kept (lo := n + 2) (hi := n + 3) (am_fr.st e38 (by omega) (by omega)) (by omega), (am_ne e38 (n + 13) (by omega)).trans hK9, am_fr.tr hF9 (am_fr.st e38 (by omega) (by omega)), gm_dn1 hE9 (by omega) (by omega) (by omega) (by omega) (by omega)⟩) (by omega)
        · skip
          refine q_blk (lv2 := [(0, vr n), (1, vi p), (2, vi k), (3, vi z19)]) (st2 := [vi (-z19)]) kX9_takeOut_62 rfl ?_
          exact q_ri rfl eX9_takeOut_64 ⟨(-z19), rfl, Or.inr ⟨⟨⟨by omega, by omega⟩, ⟨by omega, by omega⟩⟩, D, D, cm, ud9, rw9, ⟨_, Zh21, Or.inl ⟨by omega, rfl, rfl⟩⟩, gm_same.rf, gm_up.rf, hM, P9, U9, ⟨_, _, _, _, _, _, _, _, _, _, _, _, _, Mh21, Rh21, Kh21⟩, Vh21⟩⟩
    · skip
      refine AQ.of (AS.if_ne_f eX9_takeOut_26 ⟨by decide, by decide⟩ (by decide) (by decide)) ?_
      refine q_blk (lv2 := [(0, vr n), (1, vi p), (2, vi k)]) (st2 := [vi 1, vr n]) kX9_takeOut_29 rfl ?_
      refine q_goto (tgt := 34) eX9_takeOut_30 (by decide) ?_
      refine q_blk (lv2 := [(0, vr n), (1, vi p), (2, vi k)]) (st2 := [vi 2, vi 1, vr n]) kX9_takeOut_34 rfl ?_
      refine AQ.callVi (av := [vi 1, vi 2]) (st := []) (c_X9_fails Mh8 (c := 1) (e := 2) (by decide) (by omega)) lk_RX9_241 (by decide) rfl rfl Mh8.ob ⟨_, rfl, rfl⟩ (Nat.le_of_ble_eq_true rfl) eX9_takeOut_35 (fun z41 h43 e42 => ?_)
      rcases e42 with ⟨⟨rfl, Bh43⟩ | ⟨rfl, Bh43⟩, ⟨thh43, Th43, Mh43⟩, Fh43⟩
      · skip
        obtain rfl := Th43.t
        have Vh43 : am_fr h h43 n (n + 14) := am_fr.tr Vh8 (am_fr.mo Fh43 (by omega) (by omega))
        have Rh43 := Rh8.kept Fh43 (by omega)
        have Kh43 := (Fh43.2 (n + 13) (by omega)).trans Kh8
        obtain ⟨m0h43, m1h43⟩ := id Mh43
        refine AQ.of (AS.if_eq_f eX9_takeOut_38 ⟨by decide, by decide⟩ (by decide) (by decide)) ?_
        refine q_blk (lv2 := [(0, vr n), (1, vi p), (2, vi k)]) (st2 := [vi 0]) kX9_takeOut_41 rfl ?_
        exact q_ri rfl eX9_takeOut_42 ⟨0, rfl, Or.inl ⟨2, ⟨1, Or.inr ⟨⟨by omega, by omega⟩, Or.inl ⟨by omega, rfl⟩⟩, rfl⟩, by decide, ⟨_, _, _, _, _, _, _, _, _, _, _, _, _, Mh43, Rh43, Kh43⟩, Vh43⟩⟩
      · skip
        obtain rfl := Th43.f
        have Vh43 : am_fr h h43 n (n + 14) := am_fr.tr Vh8 (am_fr.mo Fh43 (by omega) (by omega))
        have Rh43 := Rh8.kept Fh43 (by omega)
        have Kh43 := (Fh43.2 (n + 13) (by omega)).trans Kh8
        obtain ⟨m0h43, m1h43⟩ := id Mh43
        refine AQ.of (AS.if_eq_t (tgt := 43) eX9_takeOut_38 (by decide) ⟨by decide, by decide⟩ (by decide)) ?_
        refine q_blk (lv2 := [(0, vr n), (1, vi p), (2, vi k)]) (st2 := [vr n, vr n]) kX9_takeOut_43 rfl ?_
        refine q_gr eX9_takeOut_45 fl_RX9_17 (Or.inr ⟨_, rfl⟩) m0h43 rfl ?_
        refine AQ.callVv (av := [vr (n + 2)]) (st := []) (c_X9_push Mh43 hu Rh43 (Or.inl rfl) m1h43) lk_RX9_254 (by decide) rfl rfl Mh43.ob ⟨_, rfl, rfl⟩ (Nat.le_of_ble_eq_true rfl) eX9_takeOut_48 (fun h46 e45 => ?_)
        obtain ⟨ud9, rw9, P9, U9, Mh46, Rh46, Fh46, Zh46⟩ := e45
        have Vh46 : am_fr h h46 n (n + 14) := am_fr.tr Vh43 (am_fr.mo Fh46 (by omega) (by omega))
        have Kh46 := (Fh46.2 (n + 13) (by omega)).trans Kh43
        obtain ⟨m0h46, m1h46⟩ := id Mh46
        refine q_blk (lv2 := [(0, vr n), (1, vi p), (2, vi k)]) (st2 := [vi k, vi p, vr n]) kX9_takeOut_51 rfl ?_
        refine AQ.callVi (av := [vi p, vi k]) (st := []) (c_X9_outReason Mh46 hD (p := p) (by omega) (by omega) (k := k) (by omega) (by omega)) lk_RX9_321 (by decide) rfl rfl Mh46.ob ⟨_, rfl, rfl⟩ (Nat.le_of_ble_eq_true rfl) eX9_takeOut_54 (fun z47 h49 e48 => ?_)
        obtain ⟨Zh49, ah49, bh49, ch49, dh49, Mh49, Fh49⟩ := e48
        have zrh49 := gm_rT_r Zh49
        have Vh49 : am_fr h h49 n (n + 14) := am_fr.tr Vh46 (am_fr.mo Fh49 (by omega) (by omega))
        have Rh49 := Rh46.kept Fh49 (by omega)
        have Kh49 := (Fh49.2 (n + 13) (by omega)).trans Kh46
        obtain ⟨m0h49, m1h49⟩ := id Mh49
        refine q_blk (lv2 := [(0, vr n), (1, vi p), (2, vi k), (3, vi z47)]) (st2 := [vi z47]) kX9_takeOut_57 rfl ?_
        refine AQ.if_le (tgt := 65) eX9_takeOut_59 (by decide) (by first | assumption | exact ⟨by omega, by omega⟩) (fun br50 => ?_) (fun br50 => ?_)
        · skip
          have R0 := Zh49
          rw [show z47 = 0 by omega] at R0
          have r0 := gm_rT_0 R0
          have hn9 := hD.n (p := p) (by omega) (by omega)
          refine q_blk (lv2 := [(0, vr n), (1, vi p), (2, vi k), (3, vi z47)]) (st2 := [vi p]) kX9_takeOut_65 rfl ?_
          refine q_Si (av := [vi p]) (st := []) c_X9_at lk_RX9_35 (by decide) rfl rfl (Nat.le_of_ble_eq_true rfl) eX9_takeOut_66 (fun z51 e52 => ?_)
          subst e52
          refine q_blk (lv2 := [(0, vr n), (1, vi p), (2, vi k), (3, vi z47), (4, vi (66 + (27 * p)))]) (st2 := [vr n]) kX9_takeOut_69 rfl ?_
          refine q_gr eX9_takeOut_72 fl_RX9_17 (Or.inr ⟨_, rfl⟩) m0h49 rfl ?_
          refine q_blk (lv2 := [(0, vr n), (1, vi p), (2, vi k), (3, vi z47), (4, vi (66 + (27 * p)))]) (st2 := [vi ((66 + (27 * p)) + 1), vr (n + 2), vi ((66 + (27 * p)) + 1), vr (n + 2)]) kX9_takeOut_75 rfl ?_
          refine q_ia eX9_takeOut_80 m1h49 (by decide) (by omega) (by omega) (z := (D ((66 + (27 * p)) + 1))) rfl ?_
          refine q_blk (lv2 := [(0, vr n), (1, vi p), (2, vi k), (3, vi z47), (4, vi (66 + (27 * p)))]) (st2 := [vi ((D ((66 + (27 * p)) + 1)) - 1), vi ((66 + (27 * p)) + 1), vr (n + 2)]) kX9_takeOut_81 rfl ?_
          refine q_is eX9_takeOut_83 m1h49 (by omega) (by omega) (fun h53 e54 => ?_)
          have k55 := (am_ne e54 n (by omega)).trans m0h49
          have k56 := am_at e54
          have k57 := (am_ne e54 (n + 13) (by omega)).trans Kh49
          have F9s : am_fr _ h53 (n + 2) (n + 3) := am_fr.st e54 (by omega) (by omega)
          obtain ⟨E8, hE8⟩ : ∃ q, q = am_uI D ((66 + (27 * p)) + 1) ((D ((66 + (27 * p)) + 1)) - 1) := ⟨_, rfl⟩
          have M9s : MM h53 n 0 bl tl ps er ea eo ud9 ah49 bh49 ch49 dh49 ns ne se E8 := ⟨k55, by rw [hE8]; exact k56⟩
          have Vh53 : am_fr h h53 n (n + 14) := am_fr.tr Vh49 (am_fr.mo F9s (by omega) (by omega))
          have Rh53 := Rh49.kept F9s (by omega)
          have Kh53 := (F9s.2 (n + 13) (by omega)).trans Kh49
          obtain ⟨m0h53, m1h53⟩ := id M9s
          refine q_blk (lv2 := [(0, vr n), (1, vi p), (2, vi k), (3, vi z47), (4, vi (66 + (27 * p))), (5, vi (2 * k))]) (st2 := []) kX9_takeOut_84 rfl ?_
          refine am_lp3 (I := fun (i : Int) (hh : AH) (E9 : Int → Int) => (2 * k ≤ i ∧ i ≤ 2 * (pN D p - 1)) ∧ MM hh n 0 bl tl ps er ea eo ud9 ah49 bh49 ch49 dh49 ns ne se E9 ∧ MRX hh n bf od rw9 ∧ hh.1 (n + 13) = some (102, 1300, sk, am_N) ∧ am_fr h hh n (n + 14) ∧ ∀ j, E9 j = if j = 67 + 27 * p then pN D p - 1 else if 69 + 27 * p + 2 * k ≤ j ∧ j < 69 + 27 * p + i then D (j + 2) else D j) (μ := fun (i : Int) (hh : AH) (E9 : Int → Int) => (2 * (pN D p - 1) - i).toNat) (G := fun (i : Int) (hh : AH) (E9 : Int → Int) => AQ w m_X9_takeOut 10 89 [(0, vr n), (1, vi p), (2, vi k), (3, vi z47), (4, vi (66 + (27 * p))), (5, vi i)] [] hh (am_int (fun z h1 => (∃ th', gm_tx (fun k => if k = 2 then 1 else 2) (gA_p D p (gA_k D p k gm_F)) th' ∧ th' ≠ 0 ∧ MA h1 n th' bl eo ud bf rw D ∧ am_fr h h1 n (n + 14)) ∨ (((0 ≤ p ∧ p < D 3) ∧ (0 ≤ k ∧ k < pN D p)) ∧ ∃ D2 D' cm' ud' rw', gR_out D p k z D2 ∧ gm_same D2 D' ∧ gm_up D D' ∧ CMS D' cm' ∧ PU ud rw D ud' rw' ∧ (1 ≤ ud' ∧ ud' ≤ 8) ∧ MA h1 n 0 bl eo ud' bf rw' D' ∧ am_fr h h1 n (n + 14))))) ?_ (2 * k) h53 E8 (⟨⟨by omega, by omega⟩, M9s, Rh53, Kh53, Vh53, fun j => by rw [hE8]; exact gm_tko_0⟩)
          intro i hh E9 hI59 ih58
          obtain ⟨⟨i0, i1⟩, hm9, hR9, hK9, hF9, hE9⟩ := hI59
          obtain ⟨m0', m1'⟩ := id hm9
          have e9n : pN E9 p = pN D p - 1 := by show E9 _ = _; rw [hE9, if_pos rfl]
          refine q_blk (lv2 := [(0, vr n), (1, vi p), (2, vi k), (3, vi z47), (4, vi (66 + (27 * p))), (5, vi i)]) (st2 := [vi p, vr n, vi 2, vi i]) kX9_takeOut_89 rfl ?_
          refine q_Vi (av := [vi p]) (st := [vi 2, vi i]) (c_X9_countOf0 hm9 (p := p) (by omega) (by omega)) lk_RX9_39 (by decide) rfl rfl hm9.ob ⟨_, rfl, rfl⟩ (Nat.le_of_ble_eq_true rfl) eX9_takeOut_94 (fun z60 e61 => ?_)
          subst e61
          refine q_blk (lv2 := [(0, vr n), (1, vi p), (2, vi k), (3, vi z47), (4, vi (66 + (27 * p))), (5, vi i)]) (st2 := [vi (2 * (pN E9 p)), vi i]) kX9_takeOut_97 rfl ?_
          refine AQ.ic_ge (tgt := 133) eX9_takeOut_98 (by decide) (by first | assumption | exact ⟨by omega, by omega⟩) (by first | assumption | exact ⟨by omega, by omega⟩) (fun br62 => ?_) (fun br62 => ?_)
          · skip
            have hT9 : E9 = gm_tko D p k := gm_tko_e hE9 (by omega) (by omega)
            rw [hT9] at hm9
            have SM := gm_tko_same hD (p := p) (k := k) (by omega) (by omega) (by omega)
            have VM := gm_toD_vd hD (p := p) (k := k) (by omega) (by omega) r0.1 r0.2 (by omega) (by omega)
            have hD9 := VM.same SM
            have b3 : gm_toD D p k 3 = D 3 := gm_setP_o (by omega)
            have t3 := SM.2.2.2.1
            obtain ⟨cm9, hM9⟩ := gm_cms_ex hD9
            refine q_blk (lv2 := [(0, vr n), (1, vi p), (2, vi k), (3, vi z47), (4, vi (66 + (27 * p))), (5, vi i)]) (st2 := [vi p, vr n]) kX9_takeOut_133 rfl ?_
            refine q_Vi (av := [vi p]) (st := []) (c_X9_areaOf hm9 hD9 (p := p) (by omega) (by omega)) lk_RX9_264 (by decide) rfl rfl hm9.ob ⟨_, rfl, rfl⟩ (Nat.le_of_ble_eq_true rfl) eX9_takeOut_135 (fun z63 e64 => ?_)
            exact q_ri rfl eX9_takeOut_138 ⟨z63, rfl, Or.inr ⟨⟨⟨by omega, by omega⟩, ⟨by omega, by omega⟩⟩, (gm_toD D p k), (gm_tko D p k), cm9, ud9, rw9, ⟨0, R0, Or.inr ⟨rfl, (e64.1.trans (gm_arD_s SM (by omega) (by omega))), rfl⟩⟩, SM, (gm_tko_up (by omega) (by omega) (by omega) (by omega)), hM9, P9, U9, ⟨_, _, _, _, _, _, _, _, _, _, _, _, _, hm9, hR9, hK9⟩, hF9⟩⟩
          · skip
            refine q_blk (lv2 := [(0, vr n), (1, vi p), (2, vi k), (3, vi z47), (4, vi (66 + (27 * p))), (5, vi i)]) (st2 := [vr n]) kX9_takeOut_101 rfl ?_
            refine q_gr eX9_takeOut_102 fl_RX9_17 (Or.inr ⟨_, rfl⟩) m0' rfl ?_
            refine q_blk (lv2 := [(0, vr n), (1, vi p), (2, vi k), (3, vi z47), (4, vi (66 + (27 * p))), (5, vi i)]) (st2 := [vr n, vi (((66 + (27 * p)) + 3) + i), vr (n + 2)]) kX9_takeOut_105 rfl ?_
            refine q_gr eX9_takeOut_113 fl_RX9_17 (Or.inr ⟨_, rfl⟩) m0' rfl ?_
            refine q_blk (lv2 := [(0, vr n), (1, vi p), (2, vi k), (3, vi z47), (4, vi (66 + (27 * p))), (5, vi i)]) (st2 := [vi ((((66 + (27 * p)) + 3) + i) + 2), vr (n + 2), vi (((66 + (27 * p)) + 3) + i), vr (n + 2)]) kX9_takeOut_116 rfl ?_
            refine q_ia eX9_takeOut_125 m1' (by decide) (by omega) (by omega) (z := (E9 ((((66 + (27 * p)) + 3) + i) + 2))) rfl ?_
            refine q_is eX9_takeOut_126 m1' (by omega) (by omega) (fun h65 e66 => ?_)
            have k67 := (am_ne e66 n (by omega)).trans m0'
            have k68 := am_at e66
            refine q_blk (lv2 := [(0, vr n), (1, vi p), (2, vi k), (3, vi z47), (4, vi (66 + (27 * p))), (5, vi (i + 1))]) (st2 := []) kX9_takeOut_127 rfl ?_
            refine q_goto (tgt := 89) eX9_takeOut_130 (by decide) ?_
            exact ih58 (i + 1) h65 (am_uI E9 (((66 + (27 * p)) + 3) + i) (E9 ((((66 + (27 * p)) + 3) + i) + 2))) (⟨⟨by omega, by omega⟩, ⟨k67, k68⟩, hR9.kept (lo := n + 2) (hi := n + 3) (am_fr.st e66 (by omega) (by omega)) (by omega), (am_ne e66 (n + 13) (by omega)).trans hK9, am_fr.tr hF9 (am_fr.st e66 (by omega) (by omega)), gm_dn1 hE9 (by omega) (by omega) (by omega) (by omega) (by omega)⟩) (by omega)
        · skip
          refine q_blk (lv2 := [(0, vr n), (1, vi p), (2, vi k), (3, vi z47)]) (st2 := [vi (-z47)]) kX9_takeOut_62 rfl ?_
          exact q_ri rfl eX9_takeOut_64 ⟨(-z47), rfl, Or.inr ⟨⟨⟨by omega, by omega⟩, ⟨by omega, by omega⟩⟩, D, D, cm, ud9, rw9, ⟨_, Zh49, Or.inl ⟨by omega, rfl, rfl⟩⟩, gm_same.rf, gm_up.rf, hM, P9, U9, ⟨_, _, _, _, _, _, _, _, _, _, _, _, _, Mh49, Rh49, Kh49⟩, Vh49⟩⟩

theorem gm_rmv_e {D E : Int → Int} {p i : Int} (hE : ∀ j, E j = if j = 3 then D 3 - 1 else if 66 + 27 * p ≤ j ∧ j < i then D (j + 27) else D j) (hi : i = 66 + 27 * (D 3 - 1)) : E = gm_rmv D p := by
  funext j
  rw [hE, hi]
  rfl
theorem gm_rmv_0 {D : Int → Int} {c j : Int} : am_uI D 3 ((D 3) - 1) j = if j = 3 then D 3 - 1 else if c ≤ j ∧ j < c then D (j + 27) else D j := by
  unfold am_uI
  by_cases e : j = 3
  · rw [if_pos e, if_pos e]
  · rw [if_neg e, if_neg e, if_neg (by omega)]
set_option maxHeartbeats 4000000 in
theorem c_X9_remove {w : am_w} {h : AH} {n : Nat} {th bl eo ud : Int} {bf : Int → Int} {rw : Int → Int → Int} {D : Int → Int} (hA : MA h n th bl eo ud bf rw D) (hD : VD D) (hu : 0 ≤ ud ∧ ud ≤ 8) {cm : Int → Int} (hM : CMS D cm) {p : Int} (r_p : am_r p)  : AE w m_X9_remove 10 [vr n, vi p] h (am_int (fun z h1 => (∃ th', gm_tx (fun _ => 1) (gA_p D p gm_F) th' ∧ th' ≠ 0 ∧ MA h1 n th' bl eo ud bf rw D ∧ am_fr h h1 n (n + 14)) ∨ ((0 ≤ p ∧ p < D 3) ∧ ∃ D2 D' cm' ud' rw', (z = gm_sm (gm_nf cm') (D2 2).toNat ∧ D2 = gm_drP D p) ∧ gm_same D2 D' ∧ gm_up D D' ∧ CMS D' cm' ∧ PU ud rw D ud' rw' ∧ (1 ≤ ud' ∧ ud' ≤ 8) ∧ MA h1 n 0 bl eo ud' bf rw' D' ∧ am_fr h h1 n (n + 14)))) := by
  refine AE.of wf_X9_remove (Nat.le_of_ble_eq_true rfl) (am_ok_i) ?_
  obtain ⟨tl, ps, er, ea, g0, g1, g2, g3, ns, ne, se, od, sk, hm, hR, hK⟩ := hA
  obtain ⟨m0, m1⟩ := id hm
  have d0 := hD.1
  have d1 := hD.2.1
  have d2 := hD.2.2.1
  have d3 := hD.2.2.2.1
  refine q_blk (lv2 := [(0, vr n), (1, vi p)]) (st2 := [vi 0, vr n]) kX9_remove_0 rfl ?_
  refine q_pi eX9_remove_2 fl_RX9_32 (fun q hq => by cases hq; exact Or.inl rfl) (Or.inl rfl) m0 (Nat.le_of_ble_eq_true rfl) (l2 := [0, 0, bl, tl, ps, er, ea, eo, 0, 0, 0, ud, g0, g1, g2, g3, ns, ne, se, 0]) rfl (fun h1 e2 => ?_)
  have k3 := am_at e2
  have k4 := (am_ne e2 (n + 2) (by omega)).trans m1
  have k5 := (am_ne e2 (n + 13) (by omega)).trans hK
  have M5 : MM h1 n 0 bl tl ps er ea eo ud g0 g1 g2 g3 ns ne se D := ⟨k3, k4⟩
  have F5 : am_fr h h1 n (n + 1) := am_fr.st e2 (by omega) (by omega)
  have Vh1 : am_fr h h1 n (n + 14) := am_fr.mo F5 (by omega) (by omega)
  have Rh1 := hR.kept F5 (by omega)
  have Kh1 := (F5.2 (n + 13) (by omega)).trans hK
  obtain ⟨m0h1, m1h1⟩ := id M5
  refine q_blk (lv2 := [(0, vr n), (1, vi p)]) (st2 := [vi p, vr n]) kX9_remove_5 rfl ?_
  refine AQ.callVi (av := [vi p]) (st := []) (c_X9_noPolygon M5 hD (by first | assumption | exact ⟨by omega, by omega⟩)) lk_RX9_300 (by decide) rfl rfl M5.ob ⟨_, rfl, rfl⟩ (Nat.le_of_ble_eq_true rfl) eX9_remove_7 (fun z6 h8 e7 => ?_)
  rcases e7 with ⟨⟨rfl, Bh8⟩ | ⟨rfl, Bh8⟩, ⟨thh8, Th8, Mh8⟩, Fh8⟩
  · skip
    obtain rfl := Th8.t
    have Vh8 : am_fr h h8 n (n + 14) := am_fr.tr Vh1 (am_fr.mo Fh8 (by omega) (by omega))
    have Rh8 := Rh1.kept Fh8 (by omega)
    have Kh8 := (Fh8.2 (n + 13) (by omega)).trans Kh1
    obtain ⟨m0h8, m1h8⟩ := id Mh8
    refine AQ.of (AS.if_eq_f eX9_remove_10 ⟨by decide, by decide⟩ (by decide) (by decide)) ?_
    refine q_blk (lv2 := [(0, vr n), (1, vi p)]) (st2 := [vi 0]) kX9_remove_13 rfl ?_
    exact q_ri rfl eX9_remove_14 ⟨0, rfl, Or.inl ⟨1, ⟨2, Or.inl ⟨by omega, rfl⟩, rfl⟩, by decide, ⟨_, _, _, _, _, _, _, _, _, _, _, _, _, Mh8, Rh8, Kh8⟩, Vh8⟩⟩
  · skip
    obtain rfl := Th8.f
    have Vh8 : am_fr h h8 n (n + 14) := am_fr.tr Vh1 (am_fr.mo Fh8 (by omega) (by omega))
    have Rh8 := Rh1.kept Fh8 (by omega)
    have Kh8 := (Fh8.2 (n + 13) (by omega)).trans Kh1
    obtain ⟨m0h8, m1h8⟩ := id Mh8
    refine AQ.of (AS.if_eq_t (tgt := 15) eX9_remove_10 (by decide) ⟨by decide, by decide⟩ (by decide)) ?_
    refine q_blk (lv2 := [(0, vr n), (1, vi p)]) (st2 := [vr n, vr n]) kX9_remove_15 rfl ?_
    refine q_gr eX9_remove_17 fl_RX9_17 (Or.inr ⟨_, rfl⟩) m0h8 rfl ?_
    refine AQ.callVv (av := [vr (n + 2)]) (st := []) (c_X9_push Mh8 hu Rh8 (Or.inl rfl) m1h8) lk_RX9_254 (by decide) rfl rfl Mh8.ob ⟨_, rfl, rfl⟩ (Nat.le_of_ble_eq_true rfl) eX9_remove_20 (fun h11 e10 => ?_)
    obtain ⟨ud9, rw9, P9, U9, Mh11, Rh11, Fh11, Zh11⟩ := e10
    have Vh11 : am_fr h h11 n (n + 14) := am_fr.tr Vh8 (am_fr.mo Fh11 (by omega) (by omega))
    have Kh11 := (Fh11.2 (n + 13) (by omega)).trans Kh8
    obtain ⟨m0h11, m1h11⟩ := id Mh11
    refine q_blk (lv2 := [(0, vr n), (1, vi p)]) (st2 := [vr n]) kX9_remove_23 rfl ?_
    refine q_gr eX9_remove_24 fl_RX9_17 (Or.inr ⟨_, rfl⟩) m0h11 rfl ?_
    refine q_blk (lv2 := [(0, vr n), (1, vi p)]) (st2 := [vi 3, vr (n + 2), vi 3, vr (n + 2)]) kX9_remove_27 rfl ?_
    refine q_ia eX9_remove_29 m1h11 (by decide) (by omega) (by omega) (z := (D 3)) rfl ?_
    refine q_blk (lv2 := [(0, vr n), (1, vi p)]) (st2 := [vi ((D 3) - 1), vi 3, vr (n + 2)]) kX9_remove_30 rfl ?_
    refine q_is eX9_remove_32 m1h11 (by omega) (by omega) (fun h12 e13 => ?_)
    have k14 := (am_ne e13 n (by omega)).trans m0h11
    have k15 := am_at e13
    have k16 := (am_ne e13 (n + 13) (by omega)).trans Kh11
    have F9s : am_fr _ h12 (n + 2) (n + 3) := am_fr.st e13 (by omega) (by omega)
    obtain ⟨E8, hE8⟩ : ∃ q, q = am_uI D 3 ((D 3) - 1) := ⟨_, rfl⟩
    have M9s : MM h12 n 0 bl tl ps er ea eo ud9 g0 g1 g2 g3 ns ne se E8 := ⟨k14, by rw [hE8]; exact k15⟩
    have Vh12 : am_fr h h12 n (n + 14) := am_fr.tr Vh11 (am_fr.mo F9s (by omega) (by omega))
    have Rh12 := Rh11.kept F9s (by omega)
    have Kh12 := (F9s.2 (n + 13) (by omega)).trans Kh11
    obtain ⟨m0h12, m1h12⟩ := id M9s
    refine q_blk (lv2 := [(0, vr n), (1, vi p)]) (st2 := [vi p]) kX9_remove_33 rfl ?_
    refine q_Si (av := [vi p]) (st := []) c_X9_at lk_RX9_35 (by decide) rfl rfl (Nat.le_of_ble_eq_true rfl) eX9_remove_34 (fun z17 e18 => ?_)
    subst e18
    refine q_blk (lv2 := [(0, vr n), (1, vi p), (2, vi (66 + (27 * p)))]) (st2 := []) kX9_remove_37 rfl ?_
    refine am_lp3 (I := fun (i : Int) (hh : AH) (E9 : Int → Int) => (66 + 27 * p ≤ i ∧ i ≤ 66 + 27 * (D 3 - 1)) ∧ MM hh n 0 bl tl ps er ea eo ud9 g0 g1 g2 g3 ns ne se E9 ∧ MRX hh n bf od rw9 ∧ hh.1 (n + 13) = some (102, 1300, sk, am_N) ∧ am_fr h hh n (n + 14) ∧ ∀ j, E9 j = if j = 3 then D 3 - 1 else if 66 + 27 * p ≤ j ∧ j < i then D (j + 27) else D j) (μ := fun (i : Int) (hh : AH) (E9 : Int → Int) => (66 + 27 * (D 3 - 1) - i).toNat) (G := fun (i : Int) (hh : AH) (E9 : Int → Int) => AQ w m_X9_remove 10 38 [(0, vr n), (1, vi p), (2, vi i)] [] hh (am_int (fun z h1 => (∃ th', gm_tx (fun _ => 1) (gA_p D p gm_F) th' ∧ th' ≠ 0 ∧ MA h1 n th' bl eo ud bf rw D ∧ am_fr h h1 n (n + 14)) ∨ ((0 ≤ p ∧ p < D 3) ∧ ∃ D2 D' cm' ud' rw', (z = gm_sm (gm_nf cm') (D2 2).toNat ∧ D2 = gm_drP D p) ∧ gm_same D2 D' ∧ gm_up D D' ∧ CMS D' cm' ∧ PU ud rw D ud' rw' ∧ (1 ≤ ud' ∧ ud' ≤ 8) ∧ MA h1 n 0 bl eo ud' bf rw' D' ∧ am_fr h h1 n (n + 14))))) ?_ (66 + (27 * p)) h12 E8 (⟨⟨by omega, by omega⟩, M9s, Rh12, Kh12, Vh12, fun j => by rw [hE8]; exact gm_rmv_0⟩)
    intro i hh E9 hI20 ih19
    obtain ⟨⟨i0, i1⟩, hm9, hR9, hK9, hF9, hE9⟩ := hI20
    obtain ⟨m0', m1'⟩ := id hm9
    have e93 : E9 3 = D 3 - 1 := by rw [hE9, if_pos rfl]
    refine q_blk (lv2 := [(0, vr n), (1, vi p), (2, vi i)]) (st2 := [vr n, vi i]) kX9_remove_38 rfl ?_
    refine q_gr eX9_remove_40 fl_RX9_17 (Or.inr ⟨_, rfl⟩) m0' rfl ?_
    refine q_blk (lv2 := [(0, vr n), (1, vi p), (2, vi i)]) (st2 := [vi 3, vr (n + 2), vi i]) kX9_remove_43 rfl ?_
    refine q_ia eX9_remove_44 m1' (by decide) (by omega) (by omega) (z := (E9 3)) rfl ?_
    refine q_Si (av := [vi (E9 3)]) (st := [vi i]) c_X9_at lk_RX9_35 (by decide) rfl rfl (Nat.le_of_ble_eq_true rfl) eX9_remove_45 (fun z21 e22 => ?_)
    subst e22
    refine AQ.ic_ge (tgt := 72) eX9_remove_48 (by decide) (by first | assumption | exact ⟨by omega, by omega⟩) (by first | assumption | exact ⟨by omega, by omega⟩) (fun br23 => ?_) (fun br23 => ?_)
    · skip
      have hT9 : E9 = gm_rmv D p := gm_rmv_e hE9 (by omega)
      rw [hT9] at hm9
      have SM := gm_rmv_same hD (p := p) (by omega) (by omega)
      have VM := gm_drP_vd hD (p := p) (by omega) (by omega)
      have hD9 := VM.same SM
      have t2 : gm_rmv D p 2 = gm_drP D p 2 := SM.2.2.1
      obtain ⟨cm9, hM9⟩ := gm_cms_ex hD9
      refine q_blk (lv2 := [(0, vr n), (1, vi p), (2, vi i)]) (st2 := [vr n]) kX9_remove_72 rfl ?_
      refine q_Vi (av := []) (st := []) (c_X9_claimedNow hm9 hD9 hM9) lk_RX9_303 (by decide) rfl rfl hm9.ob ⟨_, rfl, rfl⟩ (Nat.le_of_ble_eq_true rfl) eX9_remove_73 (fun z24 e25 => ?_)
      subst e25
      exact q_ri rfl eX9_remove_76 ⟨(gm_sm (gm_nf cm9) (gm_rmv D p 2).toNat), rfl, Or.inr ⟨⟨by omega, by omega⟩, (gm_drP D p), (gm_rmv D p), cm9, ud9, rw9, ⟨by rw [← t2], rfl⟩, SM, (gm_rmv_up (by omega) (by omega)), hM9, P9, U9, ⟨_, _, _, _, _, _, _, _, _, _, _, _, _, hm9, hR9, hK9⟩, hF9⟩⟩
    · skip
      refine q_blk (lv2 := [(0, vr n), (1, vi p), (2, vi i)]) (st2 := [vr n]) kX9_remove_51 rfl ?_
      refine q_gr eX9_remove_52 fl_RX9_17 (Or.inr ⟨_, rfl⟩) m0' rfl ?_
      refine q_blk (lv2 := [(0, vr n), (1, vi p), (2, vi i)]) (st2 := [vr n, vi i, vr (n + 2)]) kX9_remove_55 rfl ?_
      refine q_gr eX9_remove_57 fl_RX9_17 (Or.inr ⟨_, rfl⟩) m0' rfl ?_
      refine q_blk (lv2 := [(0, vr n), (1, vi p), (2, vi i)]) (st2 := [vi (i + 27), vr (n + 2), vi i, vr (n + 2)]) kX9_remove_60 rfl ?_
      refine q_ia eX9_remove_64 m1' (by decide) (by omega) (by omega) (z := (E9 (i + 27))) rfl ?_
      refine q_is eX9_remove_65 m1' (by omega) (by omega) (fun h26 e27 => ?_)
      have k28 := (am_ne e27 n (by omega)).trans m0'
      have k29 := am_at e27
      refine q_blk (lv2 := [(0, vr n), (1, vi p), (2, vi (i + 1))]) (st2 := []) kX9_remove_66 rfl ?_
      refine q_goto (tgt := 38) eX9_remove_69 (by decide) ?_
      exact ih19 (i + 1) h26 (am_uI E9 i (E9 (i + 27))) (⟨⟨by omega, by omega⟩, ⟨k28, k29⟩, hR9.kept (lo := n + 2) (hi := n + 3) (am_fr.st e27 (by omega) (by omega)) (by omega), (am_ne e27 (n + 13) (by omega)).trans hK9, am_fr.tr hF9 (am_fr.st e27 (by omega) (by omega)), gm_rm1 hE9 rfl rfl (by omega) (by omega)⟩) (by omega)

set_option maxHeartbeats 1000000 in
theorem c_X9_undo {w : am_w} {h : AH} {n : Nat} {th bl eo ud : Int} {bf : Int → Int} {rw : Int → Int → Int} {D : Int → Int} (hA : MA h n th bl eo ud bf rw D) (hD : VD D) (hu : 0 ≤ ud ∧ ud ≤ 8)  : AE w m_X9_undo 2 [vr n] h (am_int (fun z h1 => ((ud = 0 ∧ z = -1 ∧ MA h1 n 0 bl eo ud bf rw D) ∨ (0 < ud ∧ z = ud - 1 ∧ ∃ D', gm_eq8 (rw (ud - 1)) D' ∧ MA h1 n 0 bl eo (ud - 1) bf rw D')) ∧ am_fr h h1 n (n + 14))) := by
  refine AE.of wf_X9_undo (Nat.le_of_ble_eq_true rfl) (am_ok_i) ?_
  obtain ⟨tl, ps, er, ea, g0, g1, g2, g3, ns, ne, se, od, sk, hm, hR, hK⟩ := hA
  obtain ⟨m0, m1⟩ := id hm
  have d0 := hD.1
  have d1 := hD.2.1
  have d2 := hD.2.2.1
  have d3 := hD.2.2.2.1
  refine q_blk (lv2 := [(0, vr n)]) (st2 := [vi 0, vr n]) kX9_undo_0 rfl ?_
  refine q_pi eX9_undo_2 fl_RX9_32 (fun q hq => by cases hq; exact Or.inl rfl) (Or.inl rfl) m0 (Nat.le_of_ble_eq_true rfl) (l2 := [0, 0, bl, tl, ps, er, ea, eo, 0, 0, 0, ud, g0, g1, g2, g3, ns, ne, se, 0]) rfl (fun h1 e2 => ?_)
  have k3 := am_at e2
  have k4 := (am_ne e2 (n + 2) (by omega)).trans m1
  have k5 := (am_ne e2 (n + 13) (by omega)).trans hK
  have M5 : MM h1 n 0 bl tl ps er ea eo ud g0 g1 g2 g3 ns ne se D := ⟨k3, k4⟩
  have F5 : am_fr h h1 n (n + 1) := am_fr.st e2 (by omega) (by omega)
  have Vh1 : am_fr h h1 n (n + 14) := am_fr.mo F5 (by omega) (by omega)
  have Rh1 := hR.kept F5 (by omega)
  have Kh1 := (F5.2 (n + 13) (by omega)).trans hK
  obtain ⟨m0h1, m1h1⟩ := id M5
  refine q_blk (lv2 := [(0, vr n)]) (st2 := [vr n]) kX9_undo_5 rfl ?_
  refine q_gi eX9_undo_6 fl_RX9_315 (Or.inl rfl) m0h1 (z := ud) rfl ?_
  refine AQ.if_ne (tgt := 14) eX9_undo_9 (by decide) (by first | assumption | exact ⟨by omega, by omega⟩) (fun br6 => ?_) (fun br6 => ?_)
  · skip
    refine q_blk (lv2 := [(0, vr n)]) (st2 := [vr n, vr n]) kX9_undo_14 rfl ?_
    refine q_gi eX9_undo_16 fl_RX9_315 (Or.inl rfl) m0h1 (z := ud) rfl ?_
    refine q_blk (lv2 := [(0, vr n)]) (st2 := [vi (ud - 1), vr n]) kX9_undo_19 rfl ?_
    refine q_pi eX9_undo_21 fl_RX9_315 (fun q hq => by cases hq; exact Or.inl rfl) (Or.inl rfl) m0h1 (Nat.le_of_ble_eq_true rfl) (l2 := [0, 0, bl, tl, ps, er, ea, eo, 0, 0, 0, (ud - 1), g0, g1, g2, g3, ns, ne, se, 0]) rfl (fun h7 e8 => ?_)
    have k9 := am_at e8
    have k10 := (am_ne e8 (n + 2) (by omega)).trans m1h1
    have k11 := (am_ne e8 (n + 13) (by omega)).trans Kh1
    have F24 : am_fr _ h7 n (n + 1) := am_fr.st e8 (by omega) (by omega)
    have M24 : MM h7 n 0 bl tl ps er ea eo (ud - 1) g0 g1 g2 g3 ns ne se D := ⟨k9, k10⟩
    have Vh7 : am_fr h h7 n (n + 14) := am_fr.tr Vh1 (am_fr.mo F24 (by omega) (by omega))
    have Rh7 := Rh1.kept F24 (by omega)
    have Kh7 := (F24.2 (n + 13) (by omega)).trans Kh1
    obtain ⟨m0h7, m1h7⟩ := id M24
    have R37 := Rh7
    refine q_blk (lv2 := [(0, vr n)]) (st2 := [vr n]) kX9_undo_24 rfl ?_
    refine q_gr eX9_undo_25 fl_RX9_25 (Or.inr ⟨_, rfl⟩) m0h7 rfl ?_
    refine q_blk (lv2 := [(0, vr n)]) (st2 := [vr n, vr (n + 4)]) kX9_undo_28 rfl ?_
    refine q_gi eX9_undo_29 fl_RX9_315 (Or.inl rfl) m0h7 (z := (ud - 1)) rfl ?_
    refine q_aa eX9_undo_32 R37.2.2.1 (by decide) (by omega) (by omega) (am_rw_i (by omega) (by omega)) ?_
    refine q_blk (lv2 := [(0, vr n)]) (st2 := [vr n, vr (n + 5 + ((ud - 1)).toNat)]) kX9_undo_33 rfl ?_
    refine q_gr eX9_undo_34 fl_RX9_17 (Or.inr ⟨_, rfl⟩) m0h7 rfl ?_
    refine AQ.callSv (av := [vr (n + 5 + ((ud - 1)).toNat), vr (n + 2)]) (st := []) (c_X9_copy (a := (n + 5 + ((ud - 1)).toNat)) (b := (n + 2)) (R37.2.2.2 ((ud - 1)) (by omega) (by omega)) m1h7 (by omega)) lk_RX9_245 (by decide) rfl rfl (Nat.le_of_ble_eq_true rfl) eX9_undo_37 (fun h14 e13 => ?_)
    obtain ⟨Ch14, Fh14⟩ := e13
    have M40 : MM h14 n 0 bl tl ps er ea eo (ud - 1) g0 g1 g2 g3 ns ne se (gm_cp (rw (ud - 1)) D 1528) := ⟨(Fh14.2 n (by omega)).trans m0h7, Ch14⟩
    have Vh14 : am_fr h h14 n (n + 14) := am_fr.tr Vh7 (am_fr.mo Fh14 (by omega) (by omega))
    have Rh14 := Rh7.kept Fh14 (by omega)
    have Kh14 := (Fh14.2 (n + 13) (by omega)).trans Kh7
    obtain ⟨m0h14, m1h14⟩ := id M40
    refine q_blk (lv2 := [(0, vr n)]) (st2 := [vr n]) kX9_undo_40 rfl ?_
    refine q_gi eX9_undo_41 fl_RX9_315 (Or.inl rfl) m0h14 (z := (ud - 1)) rfl ?_
    exact q_ri rfl eX9_undo_44 ⟨(ud - 1), rfl, Or.inr ⟨by omega, rfl, _, gm_cp_8 _ _, ⟨_, _, _, _, _, _, _, _, _, _, _, _, _, M40, Rh14, Kh14⟩⟩, Vh14⟩
  · skip
    refine q_blk (lv2 := [(0, vr n)]) (st2 := [vi (-1)]) kX9_undo_12 rfl ?_
    exact q_ri rfl eX9_undo_13 ⟨(-1), rfl, Or.inl ⟨by omega, rfl, ⟨_, _, _, _, _, _, _, _, _, _, _, _, _, M5, Rh1, Kh1⟩⟩, Vh1⟩

theorem MRX.buf {h h1 : AH} {n : Nat} {bf od : Int → Int} {rw : Int → Int → Int} (k : MRX h n bf od rw) {f : Int → Int} (e : h1.1 (n + 1) = some (100, 800, f, am_N)) (g : am_fr h h1 n (n + 2)) : MRX h1 n f od rw := ⟨e, (g.2 _ (by omega)).trans k.2.1, (g.2 _ (by omega)).trans k.2.2.1, fun i i0 i1 => (g.2 _ (by omega)).trans (k.2.2.2 i i0 i1)⟩
def gm_W (w0 w1 w2 w3 w4 k : Int) : Int := if k < 4 then w0 else if k < 8 then w1 else if k < 12 then w2 else if k < 16 then w3 else w4
theorem gm_tm4 {k : Int} (h : 0 ≤ k) : 0 ≤ Int.tmod k 4 ∧ Int.tmod k 4 ≤ 3 := by
  rw [Int.tmod_eq_emod_of_nonneg h]
  omega
set_option maxHeartbeats 4000000 in
theorem c_X9_append {w : am_w} {h : AH} {n : Nat} {th bl eo ud : Int} {bf : Int → Int} {rw : Int → Int → Int} {D : Int → Int} (hA : MA h n th bl eo ud bf rw D) (hD : VD D) (hbl : 0 ≤ bl ∧ bl ≤ 800) {w0 w1 w2 w3 w4 : Int} (r0 : am_r w0) (r1 : am_r w1) (r2 : am_r w2) (r3 : am_r w3) (r4 : am_r w4)  : AE w m_X9_append 1 [vr n, vi w0, vi w1, vi w2, vi w3, vi w4] h (am_int (fun z h1 => ((780 < bl ∧ z = -1 ∧ MA h1 n 0 bl eo ud bf rw D) ∨ (bl ≤ 780 ∧ z = bl + 20 ∧ ∃ bf', (∀ i, i < bl → bf' i = bf i) ∧ (∀ k, 0 ≤ k → k < 20 → bf' (bl + k) = gm_W w0 w1 w2 w3 w4 k / ((2 ^ (24 - 8 * Int.tmod k 4).toNat : Nat) : Int) % 256) ∧ MA h1 n 0 (bl + 20) eo ud bf' rw D)) ∧ am_fr h h1 n (n + 14))) := by
  refine AE.of wf_X9_append (Nat.le_of_ble_eq_true rfl) (am_ok_i) ?_
  obtain ⟨tl, ps, er, ea, g0, g1, g2, g3, ns, ne, se, od, sk, hm, hR, hK⟩ := hA
  obtain ⟨m0, m1⟩ := id hm
  have d0 := hD.1
  have d1 := hD.2.1
  have d2 := hD.2.2.1
  have d3 := hD.2.2.2.1
  refine q_blk (lv2 := [(0, vr n), (1, vi w0), (2, vi w1), (3, vi w2), (4, vi w3), (5, vi w4)]) (st2 := [vi 0, vr n]) kX9_append_0 rfl ?_
  refine q_pi eX9_append_2 fl_RX9_32 (fun q hq => by cases hq; exact Or.inl rfl) (Or.inl rfl) m0 (Nat.le_of_ble_eq_true rfl) (l2 := [0, 0, bl, tl, ps, er, ea, eo, 0, 0, 0, ud, g0, g1, g2, g3, ns, ne, se, 0]) rfl (fun h1 e2 => ?_)
  have k3 := am_at e2
  have k4 := (am_ne e2 (n + 2) (by omega)).trans m1
  have k5 := (am_ne e2 (n + 1) (by omega)).trans hR.1
  have k6 := (am_ne e2 (n + 13) (by omega)).trans hK
  have M5 : MM h1 n 0 bl tl ps er ea eo ud g0 g1 g2 g3 ns ne se D := ⟨k3, k4⟩
  have F5 : am_fr h h1 n (n + 1) := am_fr.st e2 (by omega) (by omega)
  have Vh1 : am_fr h h1 n (n + 14) := am_fr.mo F5 (by omega) (by omega)
  have Rh1 := hR.kept F5 (by omega)
  have Kh1 := (F5.2 (n + 13) (by omega)).trans hK
  obtain ⟨m0h1, m1h1⟩ := id M5
  refine q_blk (lv2 := [(0, vr n), (1, vi w0), (2, vi w1), (3, vi w2), (4, vi w3), (5, vi w4)]) (st2 := [vr n]) kX9_append_5 rfl ?_
  refine q_gi eX9_append_6 fl_RX9_127 (Or.inl rfl) m0h1 (z := bl) rfl ?_
  refine q_blk (lv2 := [(0, vr n), (1, vi w0), (2, vi w1), (3, vi w2), (4, vi w3), (5, vi w4)]) (st2 := [vi 800, vi (bl + 20)]) kX9_append_9 rfl ?_
  refine AQ.ic_le (tgt := 20) eX9_append_15 (by decide) (by first | assumption | exact ⟨by omega, by omega⟩) ⟨by decide, by decide⟩ (fun br7 => ?_) (fun br7 => ?_)
  · skip
    refine q_blk (lv2 := [(0, vr n), (1, vi w0), (2, vi w1), (3, vi w2), (4, vi w3), (5, vi w4), (6, vi 0)]) (st2 := []) kX9_append_20 rfl ?_
    refine am_lp3 (I := fun (k : Int) (hh : AH) (B9 : Int → Int) => (0 ≤ k ∧ k ≤ 20) ∧ MM hh n 0 (bl + k) tl ps er ea eo ud g0 g1 g2 g3 ns ne se D ∧ MRX hh n B9 od rw ∧ hh.1 (n + 13) = some (102, 1300, sk, am_N) ∧ am_fr h hh n (n + 14) ∧ (∀ i, i < bl → B9 i = bf i) ∧ ∀ i, 0 ≤ i → i < k → B9 (bl + i) = gm_W w0 w1 w2 w3 w4 i / ((2 ^ (24 - 8 * Int.tmod i 4).toNat : Nat) : Int) % 256) (μ := fun (k : Int) (hh : AH) (B9 : Int → Int) => (20 - k).toNat) (G := fun (k : Int) (hh : AH) (B9 : Int → Int) => AQ w m_X9_append 1 23 [(0, vr n), (1, vi w0), (2, vi w1), (3, vi w2), (4, vi w3), (5, vi w4), (6, vi k)] [] hh (am_int (fun z h1 => ((780 < bl ∧ z = -1 ∧ MA h1 n 0 bl eo ud bf rw D) ∨ (bl ≤ 780 ∧ z = bl + 20 ∧ ∃ bf', (∀ i, i < bl → bf' i = bf i) ∧ (∀ k, 0 ≤ k → k < 20 → bf' (bl + k) = gm_W w0 w1 w2 w3 w4 k / ((2 ^ (24 - 8 * Int.tmod k 4).toNat : Nat) : Int) % 256) ∧ MA h1 n 0 (bl + 20) eo ud bf' rw D)) ∧ am_fr h h1 n (n + 14)))) ?_ 0 h1 bf (⟨⟨by omega, by omega⟩, by rw [show bl + 0 = bl by omega]; exact M5, Rh1, Kh1, Vh1, fun _ _ => rfl, fun i q0 q1 => by omega⟩)
    intro k hh B9 hI9 ih8
    obtain ⟨⟨k0, k1⟩, hm9, hR9, hK9, hF9, hA9, hB9⟩ := hI9
    obtain ⟨m0', m1'⟩ := id hm9
    refine q_blk (lv2 := [(0, vr n), (1, vi w0), (2, vi w1), (3, vi w2), (4, vi w3), (5, vi w4), (6, vi k)]) (st2 := [vi 20, vi k]) kX9_append_23 rfl ?_
    refine AQ.ic_ge (tgt := 120) eX9_append_27 (by decide) (by first | assumption | exact ⟨by omega, by omega⟩) ⟨by decide, by decide⟩ (fun br10 => ?_) (fun br10 => ?_)
    · skip
      refine q_blk (lv2 := [(0, vr n), (1, vi w0), (2, vi w1), (3, vi w2), (4, vi w3), (5, vi w4), (6, vi k)]) (st2 := [vr n]) kX9_append_120 rfl ?_
      refine q_gi eX9_append_121 fl_RX9_127 (Or.inl rfl) m0' (z := (bl + k)) rfl ?_
      exact q_ri rfl eX9_append_124 ⟨(bl + k), rfl, Or.inr ⟨by omega, by omega, B9, hA9, fun i q0 q1 => hB9 i q0 (by omega), by rw [show bl + 20 = bl + k by omega]; exact ⟨_, _, _, _, _, _, _, _, _, _, _, _, _, hm9, hR9, hK9⟩⟩, hF9⟩
    · skip
      have jn76 : ∀ (ww : Int), ww = gm_W w0 w1 w2 w3 w4 k → AQ w m_X9_append 1 76 [(0, vr n), (1, vi w0), (2, vi w1), (3, vi w2), (4, vi w3), (5, vi w4), (6, vi k)] [vi ww] hh (am_int (fun z h1 => ((780 < bl ∧ z = -1 ∧ MA h1 n 0 bl eo ud bf rw D) ∨ (bl ≤ 780 ∧ z = bl + 20 ∧ ∃ bf', (∀ i, i < bl → bf' i = bf i) ∧ (∀ k, 0 ≤ k → k < 20 → bf' (bl + k) = gm_W w0 w1 w2 w3 w4 k / ((2 ^ (24 - 8 * Int.tmod k 4).toNat : Nat) : Int) % 256) ∧ MA h1 n 0 (bl + 20) eo ud bf' rw D)) ∧ am_fr h h1 n (n + 14))) := by
        intro ww hj
        have rj : am_r ww := by rw [hj]; unfold gm_W; (repeat' split) <;> assumption
        have t4 := gm_tm4 k0
        refine q_blk (lv2 := [(0, vr n), (1, vi w0), (2, vi w1), (3, vi w2), (4, vi w3), (5, vi w4), (6, vi k), (7, vi ww)]) (st2 := [vr n]) kX9_append_76 rfl ?_
        refine q_gr eX9_append_79 fl_RX9_9 (Or.inr ⟨_, rfl⟩) m0' rfl ?_
        refine q_blk (lv2 := [(0, vr n), (1, vi w0), (2, vi w1), (3, vi w2), (4, vi w3), (5, vi w4), (6, vi k), (7, vi ww)]) (st2 := [vr n, vr (n + 1)]) kX9_append_82 rfl ?_
        refine q_gi eX9_append_83 fl_RX9_127 (Or.inl rfl) m0' (z := (bl + k)) rfl ?_
        refine q_blk (lv2 := [(0, vr n), (1, vi w0), (2, vi w1), (3, vi w2), (4, vi w3), (5, vi w4), (6, vi k), (7, vi ww)]) (st2 := [vi 4, vi k, vi 8, vi 24, vi ww, vi (bl + k), vr (n + 1)]) kX9_append_86 rfl ?_
        refine AQ.of (AS.irem eX9_append_95 (by first | assumption | exact ⟨by omega, by omega⟩) ⟨by decide, by decide⟩ (by omega)) ?_
        refine q_blk (lv2 := [(0, vr n), (1, vi w0), (2, vi w1), (3, vi w2), (4, vi w3), (5, vi w4), (6, vi k), (7, vi ww)]) (st2 := [vi (24 - (8 * (Int.tmod k 4))), vi ww, vi (bl + k), vr (n + 1)]) kX9_append_96 rfl ?_
        refine AQ.of (AS.ishr (a := ww) (b := (24 - (8 * (Int.tmod k 4)))) eX9_append_98 (by first | assumption | exact ⟨by omega, by omega⟩) (by omega) (by omega)) ?_
        refine q_blk (lv2 := [(0, vr n), (1, vi w0), (2, vi w1), (3, vi w2), (4, vi w3), (5, vi w4), (6, vi k), (7, vi ww)]) (st2 := [vi 255, vi (ww / ((2 ^ ((24 - (8 * (Int.tmod k 4)))).toNat : Nat) : Int)), vi (bl + k), vr (n + 1)]) kX9_append_99 rfl ?_
        refine AQ.of (AS.iand255 (a := (ww / ((2 ^ ((24 - (8 * (Int.tmod k 4)))).toNat : Nat) : Int))) eX9_append_102) ?_
        refine q_is eX9_append_103 hR9.1 (by omega) (by omega) (fun h11 e12 => ?_)
        have k13 := (am_ne e12 n (by omega)).trans m0'
        have k14 := (am_ne e12 (n + 2) (by omega)).trans m1'
        have k15 := am_at e12
        refine q_blk (lv2 := [(0, vr n), (1, vi w0), (2, vi w1), (3, vi w2), (4, vi w3), (5, vi w4), (6, vi k), (7, vi ww)]) (st2 := [vr n, vr n]) kX9_append_104 rfl ?_
        refine q_gi eX9_append_106 fl_RX9_127 (Or.inl rfl) k13 (z := (bl + k)) rfl ?_
        refine q_blk (lv2 := [(0, vr n), (1, vi w0), (2, vi w1), (3, vi w2), (4, vi w3), (5, vi w4), (6, vi k), (7, vi ww)]) (st2 := [vi ((bl + k) + 1), vr n]) kX9_append_109 rfl ?_
        refine q_pi eX9_append_111 fl_RX9_127 (fun q hq => by cases hq; exact Or.inl rfl) (Or.inl rfl) k13 (Nat.le_of_ble_eq_true rfl) (l2 := [0, 0, ((bl + k) + 1), tl, ps, er, ea, eo, 0, 0, 0, ud, g0, g1, g2, g3, ns, ne, se, 0]) rfl (fun h16 e17 => ?_)
        have k18 := am_at e17
        have k19 := (am_ne e17 (n + 2) (by omega)).trans k14
        have k20 := (am_ne e17 (n + 1) (by omega)).trans k15
        refine q_blk (lv2 := [(0, vr n), (1, vi w0), (2, vi w1), (3, vi w2), (4, vi w3), (5, vi w4), (6, vi (k + 1)), (7, vi ww)]) (st2 := []) kX9_append_114 rfl ?_
        refine q_goto (tgt := 23) eX9_append_117 (by decide) ?_
        refine q_sub (lv2 := [(0, vr n), (1, vi w0), (2, vi w1), (3, vi w2), (4, vi w3), (5, vi w4), (6, vi (k + 1))]) [0, 1, 2, 3, 4, 5, 6] rfl ?_
        exact ih8 (k + 1) h16 (am_uI B9 (bl + k) ((ww / ((2 ^ ((24 - (8 * (Int.tmod k 4)))).toNat : Nat) : Int)) % 256)) (⟨⟨by omega, by omega⟩, ⟨by have q9 := k18; rw [show bl + k + 1 = bl + (k + 1) by omega] at q9; exact q9, k19⟩, hR9.buf k20 (am_fr.tr (am_fr.st e12 (by omega) (by omega)) (am_fr.st e17 (by omega) (by omega))), (am_ne e17 (n + 13) (by omega)).trans ((am_ne e12 (n + 13) (by omega)).trans hK9), am_fr.tr hF9 (am_fr.tr (am_fr.st e12 (by omega) (by omega)) (am_fr.st e17 (by omega) (by omega))), (fun i q => by rw [am_uI_ne _ _ (by omega)]; exact hA9 i q), fun i q0 q1 => by
      by_cases c : i = k
      · rw [c, am_uI_at, hj]
      · rw [am_uI_ne _ _ (by omega)]; exact hB9 i q0 (by omega)⟩) (by omega)
      refine q_blk (lv2 := [(0, vr n), (1, vi w0), (2, vi w1), (3, vi w2), (4, vi w3), (5, vi w4), (6, vi k)]) (st2 := [vi 4, vi k]) kX9_append_30 rfl ?_
      refine AQ.ic_ge (tgt := 40) eX9_append_33 (by decide) (by first | assumption | exact ⟨by omega, by omega⟩) ⟨by decide, by decide⟩ (fun br21 => ?_) (fun br21 => ?_)
      · skip
        refine q_blk (lv2 := [(0, vr n), (1, vi w0), (2, vi w1), (3, vi w2), (4, vi w3), (5, vi w4), (6, vi k)]) (st2 := [vi 8, vi k]) kX9_append_40 rfl ?_
        refine AQ.ic_ge (tgt := 51) eX9_append_44 (by decide) (by first | assumption | exact ⟨by omega, by omega⟩) ⟨by decide, by decide⟩ (fun br22 => ?_) (fun br22 => ?_)
        · skip
          refine q_blk (lv2 := [(0, vr n), (1, vi w0), (2, vi w1), (3, vi w2), (4, vi w3), (5, vi w4), (6, vi k)]) (st2 := [vi 12, vi k]) kX9_append_51 rfl ?_
          refine AQ.ic_ge (tgt := 62) eX9_append_55 (by decide) (by first | assumption | exact ⟨by omega, by omega⟩) ⟨by decide, by decide⟩ (fun br23 => ?_) (fun br23 => ?_)
          · skip
            refine q_blk (lv2 := [(0, vr n), (1, vi w0), (2, vi w1), (3, vi w2), (4, vi w3), (5, vi w4), (6, vi k)]) (st2 := [vi 16, vi k]) kX9_append_62 rfl ?_
            refine AQ.ic_ge (tgt := 74) eX9_append_66 (by decide) (by first | assumption | exact ⟨by omega, by omega⟩) ⟨by decide, by decide⟩ (fun br24 => ?_) (fun br24 => ?_)
            · skip
              refine q_blk (lv2 := [(0, vr n), (1, vi w0), (2, vi w1), (3, vi w2), (4, vi w3), (5, vi w4), (6, vi k)]) (st2 := [vi w4]) kX9_append_74 rfl ?_
              exact jn76 w4 (by unfold gm_W; first | (rw [if_pos (by omega)]) | (rw [if_neg (by omega), if_pos (by omega)]) | (rw [if_neg (by omega), if_neg (by omega), if_pos (by omega)]) | (rw [if_neg (by omega), if_neg (by omega), if_neg (by omega), if_pos (by omega)]) | (rw [if_neg (by omega), if_neg (by omega), if_neg (by omega), if_neg (by omega)]))
            · skip
              refine q_blk (lv2 := [(0, vr n), (1, vi w0), (2, vi w1), (3, vi w2), (4, vi w3), (5, vi w4), (6, vi k)]) (st2 := [vi w3]) kX9_append_69 rfl ?_
              refine q_goto (tgt := 76) eX9_append_71 (by decide) ?_
              exact jn76 w3 (by unfold gm_W; first | (rw [if_pos (by omega)]) | (rw [if_neg (by omega), if_pos (by omega)]) | (rw [if_neg (by omega), if_neg (by omega), if_pos (by omega)]) | (rw [if_neg (by omega), if_neg (by omega), if_neg (by omega), if_pos (by omega)]) | (rw [if_neg (by omega), if_neg (by omega), if_neg (by omega), if_neg (by omega)]))
          · skip
            refine q_blk (lv2 := [(0, vr n), (1, vi w0), (2, vi w1), (3, vi w2), (4, vi w3), (5, vi w4), (6, vi k)]) (st2 := [vi w2]) kX9_append_58 rfl ?_
            refine q_goto (tgt := 76) eX9_append_59 (by decide) ?_
            exact jn76 w2 (by unfold gm_W; first | (rw [if_pos (by omega)]) | (rw [if_neg (by omega), if_pos (by omega)]) | (rw [if_neg (by omega), if_neg (by omega), if_pos (by omega)]) | (rw [if_neg (by omega), if_neg (by omega), if_neg (by omega), if_pos (by omega)]) | (rw [if_neg (by omega), if_neg (by omega), if_neg (by omega), if_neg (by omega)]))
        · skip
          refine q_blk (lv2 := [(0, vr n), (1, vi w0), (2, vi w1), (3, vi w2), (4, vi w3), (5, vi w4), (6, vi k)]) (st2 := [vi w1]) kX9_append_47 rfl ?_
          refine q_goto (tgt := 76) eX9_append_48 (by decide) ?_
          exact jn76 w1 (by unfold gm_W; first | (rw [if_pos (by omega)]) | (rw [if_neg (by omega), if_pos (by omega)]) | (rw [if_neg (by omega), if_neg (by omega), if_pos (by omega)]) | (rw [if_neg (by omega), if_neg (by omega), if_neg (by omega), if_pos (by omega)]) | (rw [if_neg (by omega), if_neg (by omega), if_neg (by omega), if_neg (by omega)]))
      · skip
        refine q_blk (lv2 := [(0, vr n), (1, vi w0), (2, vi w1), (3, vi w2), (4, vi w3), (5, vi w4), (6, vi k)]) (st2 := [vi w0]) kX9_append_36 rfl ?_
        refine q_goto (tgt := 76) eX9_append_37 (by decide) ?_
        exact jn76 w0 (by unfold gm_W; first | (rw [if_pos (by omega)]) | (rw [if_neg (by omega), if_pos (by omega)]) | (rw [if_neg (by omega), if_neg (by omega), if_pos (by omega)]) | (rw [if_neg (by omega), if_neg (by omega), if_neg (by omega), if_pos (by omega)]) | (rw [if_neg (by omega), if_neg (by omega), if_neg (by omega), if_neg (by omega)]))
  · skip
    refine q_blk (lv2 := [(0, vr n), (1, vi w0), (2, vi w1), (3, vi w2), (4, vi w3), (5, vi w4)]) (st2 := [vi (-1)]) kX9_append_18 rfl ?_
    exact q_ri rfl eX9_append_19 ⟨(-1), rfl, Or.inl ⟨by omega, rfl, ⟨_, _, _, _, _, _, _, _, _, _, _, _, _, M5, Rh1, Kh1⟩⟩, Vh1⟩
