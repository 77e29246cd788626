/-! CornerClaims$Judge. -/
/-- corners of one polygon are distinct -/
def VE (D : Int → Int) : Prop := ∀ p k m, 0 ≤ p → p < D 3 → 0 ≤ k → k < m → m < pN D p → ¬ (pX D p k = pX D p m ∧ pY D p k = pY D p m)
theorem VE.ne {D : Int → Int} (hE : VE D) {p k m : Int} (p0 : 0 ≤ p) (p1 : p < D 3) (k0 : 0 ≤ k) (k1 : k < pN D p) (m0 : 0 ≤ m) (m1 : m < pN D p) (n : k ≠ m) : pX D p m ≠ pX D p k ∨ pY D p m ≠ pY D p k := by
  rcases Int.lt_or_gt_of_ne n with q | q
  · have := hE p k m p0 p1 k0 q m1; omega
  · have := hE p m k p0 p1 m0 q k1; omega
theorem gm_side_ne {D : Int → Int} (hD : VD D) (hE : VE D) {p k : Int} (p0 : 0 ≤ p) (p1 : p < D 3) (k0 : 0 ≤ k) (k1 : k < gm_ns (pN D p) (pC D p)) : pX D p (gm_nx (pN D p) k) ≠ pX D p k ∨ pY D p (gm_nx (pN D p) k) ≠ pY D p k := by
  have h := hD.2.2.2.2.2 p p0 p1
  have h2 := h.2.1
  have h3 := h.2.2.1
  unfold gm_ns at k1
  have k2 : k < pN D p := by split at k1 <;> omega
  have r := gm_nx_r k0 k2
  refine hE.ne p0 p1 k0 k2 r.1 r.2 ?_
  unfold gm_nx
  split at k1 <;> split <;> omega
def gm_bs (D : Int → Int) (ax ay bx by' : Int) : Prop := ∃ k, 0 ≤ k ∧ k < D 2 ∧ gm_on ax ay bx by' (sX D k) (sY D k)
def gm_bk (D : Int → Int) (lp lc ax ay bx by' p : Int) : Prop := ∃ k, 0 ≤ k ∧ k < pN D p ∧ ¬ (p = lp ∧ k = lc) ∧ gm_wi ax ay bx by' (pX D p k) (pY D p k)
def gm_bc (D : Int → Int) (lp lc ax ay bx by' : Int) : Prop := ∃ p, 0 ≤ p ∧ p < D 3 ∧ gm_bk D lp lc ax ay bx by' p
def gm_ck (D : Int → Int) (lp l1 l2 ax ay bx by' p : Int) : Prop := ∃ k, 0 ≤ k ∧ k < gm_ns (pN D p) (pC D p) ∧ ¬ (p = lp ∧ (k = l1 ∨ k = l2)) ∧ gm_mt ax ay bx by' (pX D p k) (pY D p k) (pX D p (gm_nx (pN D p) k)) (pY D p (gm_nx (pN D p) k))
def gm_cr (D : Int → Int) (lp l1 l2 ax ay bx by' : Int) : Prop := ∃ p, 0 ≤ p ∧ p < D 3 ∧ gm_ck D lp l1 l2 ax ay bx by' p
/-- why a line may not be drawn; 0 if it may -/
def gm_lr (D : Int → Int) (lp lc l1 l2 ax ay bx by' z : Int) : Prop := ((gm_bs D ax ay bx by' ∨ gm_bc D lp lc ax ay bx by') ∧ z = 4) ∨ (¬ (gm_bs D ax ay bx by' ∨ gm_bc D lp lc ax ay bx by') ∧ ((gm_cr D lp l1 l2 ax ay bx by' ∧ z = 5) ∨ (¬ gm_cr D lp l1 l2 ax ay bx by' ∧ z = 0)))
def JD (h : AH) (j b l : Nat) : Prop := h.1 j = some (2, 2, am_L [], am_G [some b, some l])
theorem JD.ob {h : AH} {j b l : Nat} (hJ : JD h j b l) : am_ob h j 2 := ⟨_, _, _, hJ⟩

set_option maxHeartbeats 1000000 in
theorem c_X3_isStoneOnLine {w : am_w} {h : AH} {j b l : Nat} {D cm : Int → Int} {sc : Nat} {ax ay bx by' lp lc l1 l2 : Int} (hJ : JD h j b l) (hB : BD h b D cm sc) (hD : VD D) (hL : LN h l ax ay bx by' lp lc l1 l2) (h_ax : am_c ax) (h_ay : am_c ay) (h_bx : am_c bx) (h_by : am_c by')  : AE w m_X3_isStoneOnLine 3 [vr j] h (am_intp h (fun z => am_b z (gm_bs D ax ay bx by'))) := by
  refine AE.of wf_X3_isStoneOnLine (Nat.le_of_ble_eq_true rfl) (am_ok_zp (fun z q => am_bz q)) ?_
  obtain ⟨⟨sx, sy, sv, ⟨b0, b1, b2, b3, b4, b5⟩, hst⟩, hall, hsh⟩ := id hB
  have d0 := hD.1
  have d1 := hD.2.1
  have d2 := hD.2.2.1
  have d3 := hD.2.2.2.1
  have hJ := id hJ
  unfold JD at hJ
  refine q_blk (lv2 := [(0, vr j), (1, vi 0)]) (st2 := []) kX3_isStoneOnLine_0 rfl ?_
  refine am_lp1 (I := fun (i : Int) => (0 ≤ i ∧ i ≤ D 2) ∧ ∀ k, 0 ≤ k → k < i → ¬ gm_on ax ay bx by' (sX D k) (sY D k)) (μ := fun (i : Int) => (D 2 - i).toNat) (G := fun (i : Int) => AQ w m_X3_isStoneOnLine 3 2 [(0, vr j), (1, vi i)] [] h (am_intp h (fun z => am_b z (gm_bs D ax ay bx by')))) ?_ 0 (⟨⟨by omega, by omega⟩, fun k h0 h1 => by omega⟩)
  intro i hI2 ih1
  obtain ⟨⟨i0, i1⟩, hno⟩ := hI2
  refine q_blk (lv2 := [(0, vr j), (1, vi i)]) (st2 := [vr j, vi i]) kX3_isStoneOnLine_2 rfl ?_
  refine q_gr eX3_isStoneOnLine_4 fl_RX3_18 (Or.inl ⟨_, rfl⟩) hJ rfl ?_
  refine q_gi eX3_isStoneOnLine_7 fl_RX3_79 (Or.inl rfl) b0 (z := (D 2)) rfl ?_
  refine AQ.ic_ge (tgt := 47) eX3_isStoneOnLine_10 (by decide) (by first | assumption | exact ⟨by omega, by omega⟩) (by first | assumption | exact ⟨by omega, by omega⟩) (fun br3 => ?_) (fun br3 => ?_)
  · skip
    refine q_blk (lv2 := [(0, vr j), (1, vi i)]) (st2 := [vi 0]) kX3_isStoneOnLine_47 rfl ?_
    exact q_rz rfl eX3_isStoneOnLine_48 (by decide) ⟨0, rfl, Or.inr ⟨rfl, fun ⟨k, k0, k1, k2⟩ => hno k k0 (by omega) k2⟩, rfl⟩
  · skip
    have hv9 := hD.2.2.2.2.1 i i0 (by omega)
    have hx9 : am_c (sX D i) := by unfold am_c; omega
    have hy9 : am_c (sY D i) := by unfold am_c; omega
    refine q_blk (lv2 := [(0, vr j), (1, vi i)]) (st2 := [vr j]) kX3_isStoneOnLine_13 rfl ?_
    refine q_gr eX3_isStoneOnLine_14 fl_RX3_12 (Or.inl ⟨_, rfl⟩) hJ rfl ?_
    refine q_blk (lv2 := [(0, vr j), (1, vi i)]) (st2 := [vr j, vr l]) kX3_isStoneOnLine_17 rfl ?_
    refine q_gr eX3_isStoneOnLine_18 fl_RX3_18 (Or.inl ⟨_, rfl⟩) hJ rfl ?_
    refine q_blk (lv2 := [(0, vr j), (1, vi i)]) (st2 := [vi i, vr b, vr l]) kX3_isStoneOnLine_21 rfl ?_
    refine q_Vi (av := [vi i]) (st := [vr l]) (c_X0_stoneX hB hD (by omega) (by omega)) lk_RX3_82 (by decide) rfl rfl hB.ob ⟨_, rfl, rfl⟩ (Nat.le_of_ble_eq_true rfl) eX3_isStoneOnLine_22 (fun z4 e5 => ?_)
    subst e5
    refine q_blk (lv2 := [(0, vr j), (1, vi i)]) (st2 := [vr j, vi (sX D i), vr l]) kX3_isStoneOnLine_25 rfl ?_
    refine q_gr eX3_isStoneOnLine_26 fl_RX3_18 (Or.inl ⟨_, rfl⟩) hJ rfl ?_
    refine q_blk (lv2 := [(0, vr j), (1, vi i)]) (st2 := [vi i, vr b, vi (sX D i), vr l]) kX3_isStoneOnLine_29 rfl ?_
    refine q_Vi (av := [vi i]) (st := [vi (sX D i), vr l]) (c_X0_stoneY hB hD (by omega) (by omega)) lk_RX3_85 (by decide) rfl rfl hB.ob ⟨_, rfl, rfl⟩ (Nat.le_of_ble_eq_true rfl) eX3_isStoneOnLine_30 (fun z6 e7 => ?_)
    subst e7
    refine q_Vi (av := [vi (sX D i), vi (sY D i)]) (st := []) (c_X4_holds hL h_ax h_ay h_bx h_by hx9 hy9) lk_RX3_88 (by decide) rfl rfl hL.ob ⟨_, rfl, rfl⟩ (Nat.le_of_ble_eq_true rfl) eX3_isStoneOnLine_33 (fun z8 e9 => ?_)
    rcases e9 with ⟨rfl, e9⟩ | ⟨rfl, e9⟩
    · skip
      refine AQ.of (AS.if_eq_f eX3_isStoneOnLine_36 ⟨by decide, by decide⟩ (by decide) (by decide)) ?_
      refine q_blk (lv2 := [(0, vr j), (1, vi i)]) (st2 := [vi 1]) kX3_isStoneOnLine_39 rfl ?_
      exact q_rz rfl eX3_isStoneOnLine_40 (by decide) ⟨1, rfl, Or.inl ⟨rfl, i, i0, by omega, e9⟩, rfl⟩
    · skip
      refine AQ.of (AS.if_eq_t (tgt := 41) eX3_isStoneOnLine_36 (by decide) ⟨by decide, by decide⟩ (by decide)) ?_
      refine q_blk (lv2 := [(0, vr j), (1, vi (i + 1))]) (st2 := []) kX3_isStoneOnLine_41 rfl ?_
      refine q_goto (tgt := 2) eX3_isStoneOnLine_44 (by decide) ?_
      exact ih1 (i + 1) (⟨⟨by omega, by omega⟩, fun k k0 k1 => by
      by_cases e : k = i
      · subst e; exact e9
      · exact hno k k0 (by omega)⟩) (by omega)

set_option maxHeartbeats 1000000 in
theorem c_X3_isCornerOnLine {w : am_w} {h : AH} {j b l : Nat} {D cm : Int → Int} {sc : Nat} {ax ay bx by' lp lc l1 l2 : Int} (hJ : JD h j b l) (hB : BD h b D cm sc) (hD : VD D) (hL : LN h l ax ay bx by' lp lc l1 l2) (h_ax : am_c ax) (h_ay : am_c ay) (h_bx : am_c bx) (h_by : am_c by') (q1 : -1 ≤ lp ∧ lp ≤ 100) (q2 : -1 ≤ lc ∧ lc ≤ 100) (q3 : -1 ≤ l1 ∧ l1 ≤ 100) (q4 : -1 ≤ l2 ∧ l2 ≤ 100)  : AE w m_X3_isCornerOnLine 3 [vr j] h (am_intp h (fun z => am_b z (gm_bc D lp lc ax ay bx by'))) := by
  refine AE.of wf_X3_isCornerOnLine (Nat.le_of_ble_eq_true rfl) (am_ok_zp (fun z q => am_bz q)) ?_
  obtain ⟨⟨sx, sy, sv, ⟨b0, b1, b2, b3, b4, b5⟩, hst⟩, hall, hsh⟩ := id hB
  have d0 := hD.1
  have d1 := hD.2.1
  have d2 := hD.2.2.1
  have d3 := hD.2.2.2.1
  have hJ := id hJ
  unfold JD at hJ
  refine q_blk (lv2 := [(0, vr j), (1, vi 0)]) (st2 := []) kX3_isCornerOnLine_0 rfl ?_
  refine am_lp1 (I := fun (p : Int) => (0 ≤ p ∧ p ≤ D 3) ∧ ∀ k, 0 ≤ k → k < p → ¬ gm_bk D lp lc ax ay bx by' k) (μ := fun (p : Int) => (D 3 - p).toNat) (G := fun (p : Int) => AQ w m_X3_isCornerOnLine 3 2 [(0, vr j), (1, vi p)] [] h (am_intp h (fun z => am_b z (gm_bc D lp lc ax ay bx by')))) ?_ 0 (⟨⟨by omega, by omega⟩, fun k h0 h1 => by omega⟩)
  intro p hI2 ih1
  obtain ⟨⟨p0, p1⟩, hno⟩ := hI2
  refine q_blk (lv2 := [(0, vr j), (1, vi p)]) (st2 := [vr j, vi p]) kX3_isCornerOnLine_2 rfl ?_
  refine q_gr eX3_isCornerOnLine_4 fl_RX3_18 (Or.inl ⟨_, rfl⟩) hJ rfl ?_
  refine q_gi eX3_isCornerOnLine_7 fl_RX3_91 (Or.inl rfl) b0 (z := (D 3)) rfl ?_
  refine AQ.ic_ge (tgt := 100) eX3_isCornerOnLine_10 (by decide) (by first | assumption | exact ⟨by omega, by omega⟩) (by first | assumption | exact ⟨by omega, by omega⟩) (fun br3 => ?_) (fun br3 => ?_)
  · skip
    refine q_blk (lv2 := [(0, vr j), (1, vi p)]) (st2 := [vi 0]) kX3_isCornerOnLine_100 rfl ?_
    exact q_rz rfl eX3_isCornerOnLine_101 (by decide) ⟨0, rfl, Or.inr ⟨rfl, fun ⟨k, k0, k1, k2⟩ => hno k k0 (by omega) k2⟩, rfl⟩
  · skip
    refine q_blk (lv2 := [(0, vr j), (1, vi p)]) (st2 := [vr j]) kX3_isCornerOnLine_13 rfl ?_
    refine q_gr eX3_isCornerOnLine_14 fl_RX3_18 (Or.inl ⟨_, rfl⟩) hJ rfl ?_
    refine q_blk (lv2 := [(0, vr j), (1, vi p)]) (st2 := [vi p, vr b]) kX3_isCornerOnLine_17 rfl ?_
    refine q_Vr (av := [vi p]) (st := []) (c_X0_shapeAt hB hD (by omega) (by omega)) lk_RX3_22 (by decide) rfl rfl hB.ob ⟨_, rfl, rfl⟩ (Nat.le_of_ble_eq_true rfl) eX3_isCornerOnLine_18 (fun z4 e5 => ?_)
    subst e5
    have hS6 := hB.sh (p := p) (by omega) (by omega)
    obtain ⟨fx6, fy6, hP6, hn6, hc6, hx6⟩ := id hS6
    have hV6 := hD.vc (p := p) (by omega) (by omega)
    refine q_blk (lv2 := [(0, vr j), (1, vi p), (2, vr (b + 6 + 3 * (Int.toNat p))), (3, vi 0)]) (st2 := []) kX3_isCornerOnLine_21 rfl ?_
    refine am_lp1 (I := fun (m : Int) => (0 ≤ m ∧ m ≤ pN D p) ∧ ∀ k, 0 ≤ k → k < m → ¬ (¬ (p = lp ∧ k = lc) ∧ gm_wi ax ay bx by' (pX D p k) (pY D p k))) (μ := fun (m : Int) => (pN D p - m).toNat) (G := fun (m : Int) => AQ w m_X3_isCornerOnLine 3 24 [(0, vr j), (1, vi p), (2, vr (b + 6 + 3 * (Int.toNat p))), (3, vi m)] [] h (am_intp h (fun z => am_b z (gm_bc D lp lc ax ay bx by')))) ?_ 0 (⟨⟨by omega, by omega⟩, fun k h0 h1 => by omega⟩)
    intro m hI8 ih7
    obtain ⟨⟨m0, m1⟩, hnk⟩ := hI8
    refine q_blk (lv2 := [(0, vr j), (1, vi p), (2, vr (b + 6 + 3 * (Int.toNat p))), (3, vi m)]) (st2 := [vr (b + 6 + 3 * (Int.toNat p)), vi m]) kX3_isCornerOnLine_24 rfl ?_
    refine q_gi eX3_isCornerOnLine_26 fl_RX3_34 (Or.inl rfl) hP6.1 (z := (pN D p)) rfl ?_
    refine AQ.ic_ge (tgt := 94) eX3_isCornerOnLine_29 (by decide) (by first | assumption | exact ⟨by omega, by omega⟩) (by first | assumption | exact ⟨by omega, by omega⟩) (fun br9 => ?_) (fun br9 => ?_)
    · skip
      refine q_blk (lv2 := [(0, vr j), (1, vi (p + 1)), (2, vr (b + 6 + 3 * (Int.toNat p))), (3, vi m)]) (st2 := []) kX3_isCornerOnLine_94 rfl ?_
      refine q_goto (tgt := 2) eX3_isCornerOnLine_97 (by decide) ?_
      refine q_sub (lv2 := [(0, vr j), (1, vi (p + 1))]) [0, 1] rfl ?_
      exact ih1 (p + 1) (⟨⟨by omega, by omega⟩, fun k k0 k1 => by
        by_cases e : k = p
        · subst e; exact fun ⟨t, t0, t1, t2⟩ => hnk t t0 (by omega) t2
        · exact hno k k0 (by omega)⟩) (by omega)
    · skip
      refine q_blk (lv2 := [(0, vr j), (1, vi p), (2, vr (b + 6 + 3 * (Int.toNat p))), (3, vi m)]) (st2 := [vi m, vr (b + 6 + 3 * (Int.toNat p))]) kX3_isCornerOnLine_32 rfl ?_
      refine q_Vi (av := [vi m]) (st := []) (c_X7_xAt hS6 (by omega) (by omega)) lk_RX3_45 (by decide) rfl rfl hS6.ob ⟨_, rfl, rfl⟩ (Nat.le_of_ble_eq_true rfl) eX3_isCornerOnLine_34 (fun z10 e11 => ?_)
      subst e11
      refine q_blk (lv2 := [(0, vr j), (1, vi p), (2, vr (b + 6 + 3 * (Int.toNat p))), (3, vi m), (4, vi ((pX D p) m))]) (st2 := [vi m, vr (b + 6 + 3 * (Int.toNat p))]) kX3_isCornerOnLine_37 rfl ?_
      refine q_Vi (av := [vi m]) (st := []) (c_X7_yAt hS6 (by omega) (by omega)) lk_RX3_49 (by decide) rfl rfl hS6.ob ⟨_, rfl, rfl⟩ (Nat.le_of_ble_eq_true rfl) eX3_isCornerOnLine_41 (fun z12 e13 => ?_)
      subst e13
      refine q_blk (lv2 := [(0, vr j), (1, vi p), (2, vr (b + 6 + 3 * (Int.toNat p))), (3, vi m), (4, vi ((pX D p) m)), (5, vi ((pY D p) m))]) (st2 := [vr j]) kX3_isCornerOnLine_44 rfl ?_
      refine q_gr eX3_isCornerOnLine_47 fl_RX3_12 (Or.inl ⟨_, rfl⟩) hJ rfl ?_
      refine q_blk (lv2 := [(0, vr j), (1, vi p), (2, vr (b + 6 + 3 * (Int.toNat p))), (3, vi m), (4, vi ((pX D p) m)), (5, vi ((pY D p) m))]) (st2 := [vi m, vi p, vr l]) kX3_isCornerOnLine_50 rfl ?_
      refine q_Vi (av := [vi p, vi m]) (st := []) (c_X4_losesCorner hL q1 q2 q3 q4 ⟨by omega, by omega⟩ ⟨by omega, by omega⟩) lk_RX3_94 (by decide) rfl rfl hL.ob ⟨_, rfl, rfl⟩ (Nat.le_of_ble_eq_true rfl) eX3_isCornerOnLine_52 (fun z14 e15 => ?_)
      rcases e15 with ⟨rfl, e15⟩ | ⟨rfl, e15⟩
      · skip
        refine AQ.of (AS.if_ne_t (tgt := 88) eX3_isCornerOnLine_55 (by decide) ⟨by decide, by decide⟩ (by decide)) ?_
        refine q_blk (lv2 := [(0, vr j), (1, vi p), (2, vr (b + 6 + 3 * (Int.toNat p))), (3, vi (m + 1)), (4, vi ((pX D p) m)), (5, vi ((pY D p) m))]) (st2 := []) kX3_isCornerOnLine_88 rfl ?_
        refine q_goto (tgt := 24) eX3_isCornerOnLine_91 (by decide) ?_
        refine q_sub (lv2 := [(0, vr j), (1, vi p), (2, vr (b + 6 + 3 * (Int.toNat p))), (3, vi (m + 1))]) [0, 1, 2, 3] rfl ?_
        exact ih7 (m + 1) (⟨⟨by omega, by omega⟩, fun k k0 k1 ⟨q1, q2⟩ => by
          by_cases e : k = m
          · subst e; exact absurd e15 q1
          · exact hnk k k0 (by omega) ⟨q1, q2⟩⟩) (by omega)
      · skip
        refine AQ.of (AS.if_ne_f eX3_isCornerOnLine_55 ⟨by decide, by decide⟩ (by decide) (by decide)) ?_
        refine q_blk (lv2 := [(0, vr j), (1, vi p), (2, vr (b + 6 + 3 * (Int.toNat p))), (3, vi m), (4, vi ((pX D p) m)), (5, vi ((pY D p) m))]) (st2 := [vr j]) kX3_isCornerOnLine_58 rfl ?_
        refine q_gr eX3_isCornerOnLine_59 fl_RX3_12 (Or.inl ⟨_, rfl⟩) hJ rfl ?_
        refine q_blk (lv2 := [(0, vr j), (1, vi p), (2, vr (b + 6 + 3 * (Int.toNat p))), (3, vi m), (4, vi ((pX D p) m)), (5, vi ((pY D p) m))]) (st2 := [vi ((pY D p) m), vi ((pX D p) m), vr l]) kX3_isCornerOnLine_62 rfl ?_
        refine q_Vi (av := [vi ((pX D p) m), vi ((pY D p) m)]) (st := []) (c_X4_endsAt hL h_ax h_ay h_bx h_by (hV6 m (by omega) (by omega)).1 (hV6 m (by omega) (by omega)).2) lk_RX3_97 (by decide) rfl rfl hL.ob ⟨_, rfl, rfl⟩ (Nat.le_of_ble_eq_true rfl) eX3_isCornerOnLine_66 (fun z16 e17 => ?_)
        rcases e17 with ⟨rfl, e17⟩ | ⟨rfl, e17⟩
        · skip
          refine AQ.of (AS.if_ne_t (tgt := 88) eX3_isCornerOnLine_69 (by decide) ⟨by decide, by decide⟩ (by decide)) ?_
          refine q_blk (lv2 := [(0, vr j), (1, vi p), (2, vr (b + 6 + 3 * (Int.toNat p))), (3, vi (m + 1)), (4, vi ((pX D p) m)), (5, vi ((pY D p) m))]) (st2 := []) kX3_isCornerOnLine_88 rfl ?_
          refine q_goto (tgt := 24) eX3_isCornerOnLine_91 (by decide) ?_
          refine q_sub (lv2 := [(0, vr j), (1, vi p), (2, vr (b + 6 + 3 * (Int.toNat p))), (3, vi (m + 1))]) [0, 1, 2, 3] rfl ?_
          exact ih7 (m + 1) (⟨⟨by omega, by omega⟩, fun k k0 k1 ⟨q1, q2⟩ => by
          by_cases e : k = m
          · subst e; exact q2.2 e17
          · exact hnk k k0 (by omega) ⟨q1, q2⟩⟩) (by omega)
        · skip
          refine AQ.of (AS.if_ne_f eX3_isCornerOnLine_69 ⟨by decide, by decide⟩ (by decide) (by decide)) ?_
          refine q_blk (lv2 := [(0, vr j), (1, vi p), (2, vr (b + 6 + 3 * (Int.toNat p))), (3, vi m), (4, vi ((pX D p) m)), (5, vi ((pY D p) m))]) (st2 := [vr j]) kX3_isCornerOnLine_72 rfl ?_
          refine q_gr eX3_isCornerOnLine_73 fl_RX3_12 (Or.inl ⟨_, rfl⟩) hJ rfl ?_
          refine q_blk (lv2 := [(0, vr j), (1, vi p), (2, vr (b + 6 + 3 * (Int.toNat p))), (3, vi m), (4, vi ((pX D p) m)), (5, vi ((pY D p) m))]) (st2 := [vi ((pY D p) m), vi ((pX D p) m), vr l]) kX3_isCornerOnLine_76 rfl ?_
          refine q_Vi (av := [vi ((pX D p) m), vi ((pY D p) m)]) (st := []) (c_X4_holds hL h_ax h_ay h_bx h_by (hV6 m (by omega) (by omega)).1 (hV6 m (by omega) (by omega)).2) lk_RX3_88 (by decide) rfl rfl hL.ob ⟨_, rfl, rfl⟩ (Nat.le_of_ble_eq_true rfl) eX3_isCornerOnLine_80 (fun z18 e19 => ?_)
          rcases e19 with ⟨rfl, e19⟩ | ⟨rfl, e19⟩
          · skip
            refine AQ.of (AS.if_eq_f eX3_isCornerOnLine_83 ⟨by decide, by decide⟩ (by decide) (by decide)) ?_
            refine q_blk (lv2 := [(0, vr j), (1, vi p), (2, vr (b + 6 + 3 * (Int.toNat p))), (3, vi m), (4, vi ((pX D p) m)), (5, vi ((pY D p) m))]) (st2 := [vi 1]) kX3_isCornerOnLine_86 rfl ?_
            exact q_rz rfl eX3_isCornerOnLine_87 (by decide) ⟨1, rfl, Or.inl ⟨rfl, p, p0, by omega, m, m0, by omega, e15, e19, e17⟩, rfl⟩
          · skip
            refine AQ.of (AS.if_eq_t (tgt := 88) eX3_isCornerOnLine_83 (by decide) ⟨by decide, by decide⟩ (by decide)) ?_
            refine q_blk (lv2 := [(0, vr j), (1, vi p), (2, vr (b + 6 + 3 * (Int.toNat p))), (3, vi (m + 1)), (4, vi ((pX D p) m)), (5, vi ((pY D p) m))]) (st2 := []) kX3_isCornerOnLine_88 rfl ?_
            refine q_goto (tgt := 24) eX3_isCornerOnLine_91 (by decide) ?_
            refine q_sub (lv2 := [(0, vr j), (1, vi p), (2, vr (b + 6 + 3 * (Int.toNat p))), (3, vi (m + 1))]) [0, 1, 2, 3] rfl ?_
            exact ih7 (m + 1) (⟨⟨by omega, by omega⟩, fun k k0 k1 ⟨q1, q2⟩ => by
          by_cases e : k = m
          · subst e; exact e19 q2.1
          · exact hnk k k0 (by omega) ⟨q1, q2⟩⟩) (by omega)

set_option maxHeartbeats 1000000 in
theorem c_X3_isSideMet {w : am_w} {h : AH} {j b l : Nat} {D cm : Int → Int} {sc : Nat} {ax ay bx by' lp lc l1 l2 : Int} (hJ : JD h j b l) (hB : BD h b D cm sc) (hD : VD D) (hL : LN h l ax ay bx by' lp lc l1 l2) (h_ax : am_c ax) (h_ay : am_c ay) (h_bx : am_c bx) (h_by : am_c by') (q1 : -1 ≤ lp ∧ lp ≤ 100) (q2 : -1 ≤ lc ∧ lc ≤ 100) (q3 : -1 ≤ l1 ∧ l1 ≤ 100) (q4 : -1 ≤ l2 ∧ l2 ≤ 100) (hE : VE D) (hab : bx ≠ ax ∨ by' ≠ ay)  : AE w m_X3_isSideMet 4 [vr j] h (am_intp h (fun z => am_b z (gm_cr D lp l1 l2 ax ay bx by'))) := by
  refine AE.of wf_X3_isSideMet (Nat.le_of_ble_eq_true rfl) (am_ok_zp (fun z q => am_bz q)) ?_
  obtain ⟨⟨sx, sy, sv, ⟨b0, b1, b2, b3, b4, b5⟩, hst⟩, hall, hsh⟩ := id hB
  have d0 := hD.1
  have d1 := hD.2.1
  have d2 := hD.2.2.1
  have d3 := hD.2.2.2.1
  have hJ := id hJ
  unfold JD at hJ
  refine q_blk (lv2 := [(0, vr j), (1, vi 0)]) (st2 := []) kX3_isSideMet_0 rfl ?_
  refine am_lp1 (I := fun (p : Int) => (0 ≤ p ∧ p ≤ D 3) ∧ ∀ k, 0 ≤ k → k < p → ¬ gm_ck D lp l1 l2 ax ay bx by' k) (μ := fun (p : Int) => (D 3 - p).toNat) (G := fun (p : Int) => AQ w m_X3_isSideMet 4 2 [(0, vr j), (1, vi p)] [] h (am_intp h (fun z => am_b z (gm_cr D lp l1 l2 ax ay bx by')))) ?_ 0 (⟨⟨by omega, by omega⟩, fun k h0 h1 => by omega⟩)
  intro p hI2 ih1
  obtain ⟨⟨p0, p1⟩, hno⟩ := hI2
  refine q_blk (lv2 := [(0, vr j), (1, vi p)]) (st2 := [vr j, vi p]) kX3_isSideMet_2 rfl ?_
  refine q_gr eX3_isSideMet_4 fl_RX3_18 (Or.inl ⟨_, rfl⟩) hJ rfl ?_
  refine q_gi eX3_isSideMet_7 fl_RX3_91 (Or.inl rfl) b0 (z := (D 3)) rfl ?_
  refine AQ.ic_ge (tgt := 97) eX3_isSideMet_10 (by decide) (by first | assumption | exact ⟨by omega, by omega⟩) (by first | assumption | exact ⟨by omega, by omega⟩) (fun br3 => ?_) (fun br3 => ?_)
  · skip
    refine q_blk (lv2 := [(0, vr j), (1, vi p)]) (st2 := [vi 0]) kX3_isSideMet_97 rfl ?_
    exact q_rz rfl eX3_isSideMet_98 (by decide) ⟨0, rfl, Or.inr ⟨rfl, fun ⟨k, k0, k1, k2⟩ => hno k k0 (by omega) k2⟩, rfl⟩
  · skip
    refine q_blk (lv2 := [(0, vr j), (1, vi p)]) (st2 := [vr j]) kX3_isSideMet_13 rfl ?_
    refine q_gr eX3_isSideMet_14 fl_RX3_18 (Or.inl ⟨_, rfl⟩) hJ rfl ?_
    refine q_blk (lv2 := [(0, vr j), (1, vi p)]) (st2 := [vi p, vr b]) kX3_isSideMet_17 rfl ?_
    refine q_Vr (av := [vi p]) (st := []) (c_X0_shapeAt hB hD (by omega) (by omega)) lk_RX3_22 (by decide) rfl rfl hB.ob ⟨_, rfl, rfl⟩ (Nat.le_of_ble_eq_true rfl) eX3_isSideMet_18 (fun z4 e5 => ?_)
    subst e5
    have hS6 := hB.sh (p := p) (by omega) (by omega)
    obtain ⟨fx6, fy6, hP6, hn6, hc6, hx6⟩ := id hS6
    have hV6 := hD.vc (p := p) (by omega) (by omega)
    have hns : gm_ns (pN D p) (pC D p) ≤ pN D p ∧ -1 ≤ gm_ns (pN D p) (pC D p) := by have := (hD.2.2.2.2.2 p p0 (by omega)).2.1; unfold gm_ns; split <;> omega
    refine q_blk (lv2 := [(0, vr j), (1, vi p), (2, vr (b + 6 + 3 * (Int.toNat p))), (3, vi 0)]) (st2 := []) kX3_isSideMet_21 rfl ?_
    refine am_lp1 (I := fun (m : Int) => (0 ≤ m ∧ m ≤ pN D p) ∧ ∀ k, 0 ≤ k → k < m → ¬ (¬ (p = lp ∧ (k = l1 ∨ k = l2)) ∧ gm_mt ax ay bx by' (pX D p k) (pY D p k) (pX D p (gm_nx (pN D p) k)) (pY D p (gm_nx (pN D p) k)))) (μ := fun (m : Int) => (pN D p - m).toNat) (G := fun (m : Int) => AQ w m_X3_isSideMet 4 24 [(0, vr j), (1, vi p), (2, vr (b + 6 + 3 * (Int.toNat p))), (3, vi m)] [] h (am_intp h (fun z => am_b z (gm_cr D lp l1 l2 ax ay bx by')))) ?_ 0 (⟨⟨by omega, by omega⟩, fun k h0 h1 => by omega⟩)
    intro m hI8 ih7
    obtain ⟨⟨m0, m1⟩, hnk⟩ := hI8
    refine q_blk (lv2 := [(0, vr j), (1, vi p), (2, vr (b + 6 + 3 * (Int.toNat p))), (3, vi m)]) (st2 := [vr (b + 6 + 3 * (Int.toNat p)), vi m]) kX3_isSideMet_24 rfl ?_
    refine q_Vi (av := []) (st := [vi m]) (c_X7_sideCount hS6) lk_RX3_100 (by decide) rfl rfl hS6.ob ⟨_, rfl, rfl⟩ (Nat.le_of_ble_eq_true rfl) eX3_isSideMet_26 (fun z9 e10 => ?_)
    refine AQ.ic_ge (tgt := 91) eX3_isSideMet_29 (by decide) (by first | assumption | exact ⟨by omega, by omega⟩) (by first | assumption | exact ⟨by omega, by omega⟩) (fun br11 => ?_) (fun br11 => ?_)
    · skip
      refine q_blk (lv2 := [(0, vr j), (1, vi (p + 1)), (2, vr (b + 6 + 3 * (Int.toNat p))), (3, vi m)]) (st2 := []) kX3_isSideMet_91 rfl ?_
      refine q_goto (tgt := 2) eX3_isSideMet_94 (by decide) ?_
      refine q_sub (lv2 := [(0, vr j), (1, vi (p + 1))]) [0, 1] rfl ?_
      exact ih1 (p + 1) (⟨⟨by omega, by omega⟩, fun k k0 k1 => by
        by_cases e : k = p
        · subst e; exact fun ⟨t, t0, t1, t2⟩ => hnk t t0 (by omega) t2
        · exact hno k k0 (by omega)⟩) (by omega)
    · skip
      refine q_blk (lv2 := [(0, vr j), (1, vi p), (2, vr (b + 6 + 3 * (Int.toNat p))), (3, vi m)]) (st2 := [vi m, vr (b + 6 + 3 * (Int.toNat p))]) kX3_isSideMet_32 rfl ?_
      refine q_Vi (av := [vi m]) (st := []) (c_X7_placeBehind hS6 (by omega) (by omega)) lk_RX3_63 (by decide) rfl rfl hS6.ob ⟨_, rfl, rfl⟩ (Nat.le_of_ble_eq_true rfl) eX3_isSideMet_34 (fun z12 e13 => ?_)
      obtain ⟨e13, e13a, e13b⟩ := e13
      have hsn := gm_side_ne hD hE p0 (by omega) m0 (by omega)
      rw [← e13] at hsn
      refine q_blk (lv2 := [(0, vr j), (1, vi p), (2, vr (b + 6 + 3 * (Int.toNat p))), (3, vi m), (4, vi z12)]) (st2 := [vr j]) kX3_isSideMet_37 rfl ?_
      refine q_gr eX3_isSideMet_40 fl_RX3_12 (Or.inl ⟨_, rfl⟩) hJ rfl ?_
      refine q_blk (lv2 := [(0, vr j), (1, vi p), (2, vr (b + 6 + 3 * (Int.toNat p))), (3, vi m), (4, vi z12)]) (st2 := [vi m, vi p, vr l]) kX3_isSideMet_43 rfl ?_
      refine q_Vi (av := [vi p, vi m]) (st := []) (c_X4_losesSide hL q1 q2 q3 q4 ⟨by omega, by omega⟩ ⟨by omega, by omega⟩) lk_RX3_103 (by decide) rfl rfl hL.ob ⟨_, rfl, rfl⟩ (Nat.le_of_ble_eq_true rfl) eX3_isSideMet_45 (fun z14 e15 => ?_)
      rcases e15 with ⟨rfl, e15⟩ | ⟨rfl, e15⟩
      · skip
        refine AQ.of (AS.if_ne_t (tgt := 85) eX3_isSideMet_48 (by decide) ⟨by decide, by decide⟩ (by decide)) ?_
        refine q_blk (lv2 := [(0, vr j), (1, vi p), (2, vr (b + 6 + 3 * (Int.toNat p))), (3, vi (m + 1)), (4, vi z12)]) (st2 := []) kX3_isSideMet_85 rfl ?_
        refine q_goto (tgt := 24) eX3_isSideMet_88 (by decide) ?_
        refine q_sub (lv2 := [(0, vr j), (1, vi p), (2, vr (b + 6 + 3 * (Int.toNat p))), (3, vi (m + 1))]) [0, 1, 2, 3] rfl ?_
        exact ih7 (m + 1) (⟨⟨by omega, by omega⟩, fun k k0 k1 ⟨q1, q2⟩ => by
          by_cases e : k = m
          · subst e; exact q1 e15
          · exact hnk k k0 (by omega) ⟨q1, q2⟩⟩) (by omega)
      · skip
        refine AQ.of (AS.if_ne_f eX3_isSideMet_48 ⟨by decide, by decide⟩ (by decide) (by decide)) ?_
        refine q_blk (lv2 := [(0, vr j), (1, vi p), (2, vr (b + 6 + 3 * (Int.toNat p))), (3, vi m), (4, vi z12)]) (st2 := [vr j]) kX3_isSideMet_51 rfl ?_
        refine q_gr eX3_isSideMet_52 fl_RX3_12 (Or.inl ⟨_, rfl⟩) hJ rfl ?_
        refine q_blk (lv2 := [(0, vr j), (1, vi p), (2, vr (b + 6 + 3 * (Int.toNat p))), (3, vi m), (4, vi z12)]) (st2 := [vi m, vr (b + 6 + 3 * (Int.toNat p)), vr l]) kX3_isSideMet_55 rfl ?_
        refine q_Vi (av := [vi m]) (st := [vr l]) (c_X7_xAt hS6 (by omega) (by omega)) lk_RX3_45 (by decide) rfl rfl hS6.ob ⟨_, rfl, rfl⟩ (Nat.le_of_ble_eq_true rfl) eX3_isSideMet_57 (fun z16 e17 => ?_)
        subst e17
        refine q_blk (lv2 := [(0, vr j), (1, vi p), (2, vr (b + 6 + 3 * (Int.toNat p))), (3, vi m), (4, vi z12)]) (st2 := [vi m, vr (b + 6 + 3 * (Int.toNat p)), vi ((pX D p) m), vr l]) kX3_isSideMet_60 rfl ?_
        refine q_Vi (av := [vi m]) (st := [vi ((pX D p) m), vr l]) (c_X7_yAt hS6 (by omega) (by omega)) lk_RX3_49 (by decide) rfl rfl hS6.ob ⟨_, rfl, rfl⟩ (Nat.le_of_ble_eq_true rfl) eX3_isSideMet_62 (fun z18 e19 => ?_)
        subst e19
        refine q_blk (lv2 := [(0, vr j), (1, vi p), (2, vr (b + 6 + 3 * (Int.toNat p))), (3, vi m), (4, vi z12)]) (st2 := [vi z12, vr (b + 6 + 3 * (Int.toNat p)), vi ((pY D p) m), vi ((pX D p) m), vr l]) kX3_isSideMet_65 rfl ?_
        refine q_Vi (av := [vi z12]) (st := [vi ((pY D p) m), vi ((pX D p) m), vr l]) (c_X7_xAt hS6 (by omega) (by omega)) lk_RX3_45 (by decide) rfl rfl hS6.ob ⟨_, rfl, rfl⟩ (Nat.le_of_ble_eq_true rfl) eX3_isSideMet_68 (fun z20 e21 => ?_)
        subst e21
        refine q_blk (lv2 := [(0, vr j), (1, vi p), (2, vr (b + 6 + 3 * (Int.toNat p))), (3, vi m), (4, vi z12)]) (st2 := [vi z12, vr (b + 6 + 3 * (Int.toNat p)), vi ((pX D p) z12), vi ((pY D p) m), vi ((pX D p) m), vr l]) kX3_isSideMet_71 rfl ?_
        refine q_Vi (av := [vi z12]) (st := [vi ((pX D p) z12), vi ((pY D p) m), vi ((pX D p) m), vr l]) (c_X7_yAt hS6 (by omega) (by omega)) lk_RX3_49 (by decide) rfl rfl hS6.ob ⟨_, rfl, rfl⟩ (Nat.le_of_ble_eq_true rfl) eX3_isSideMet_74 (fun z22 e23 => ?_)
        subst e23
        refine q_Vi (av := [vi ((pX D p) m), vi ((pY D p) m), vi ((pX D p) z12), vi ((pY D p) z12)]) (st := []) (c_X4_meets hL h_ax h_ay h_bx h_by (hV6 m (by omega) (by omega)).1 (hV6 m (by omega) (by omega)).2 (hV6 z12 (by omega) (by omega)).1 (hV6 z12 (by omega) (by omega)).2 hab hsn) lk_RX3_106 (by decide) rfl rfl hL.ob ⟨_, rfl, rfl⟩ (Nat.le_of_ble_eq_true rfl) eX3_isSideMet_77 (fun z24 e25 => ?_)
        rcases e25 with ⟨rfl, e25⟩ | ⟨rfl, e25⟩
        · skip
          refine AQ.of (AS.if_eq_f eX3_isSideMet_80 ⟨by decide, by decide⟩ (by decide) (by decide)) ?_
          refine q_blk (lv2 := [(0, vr j), (1, vi p), (2, vr (b + 6 + 3 * (Int.toNat p))), (3, vi m), (4, vi z12)]) (st2 := [vi 1]) kX3_isSideMet_83 rfl ?_
          exact q_rz rfl eX3_isSideMet_84 (by decide) ⟨1, rfl, Or.inl ⟨rfl, p, p0, by omega, m, m0, by omega, e15, by rw [← e13]; exact e25⟩, rfl⟩
        · skip
          refine AQ.of (AS.if_eq_t (tgt := 85) eX3_isSideMet_80 (by decide) ⟨by decide, by decide⟩ (by decide)) ?_
          refine q_blk (lv2 := [(0, vr j), (1, vi p), (2, vr (b + 6 + 3 * (Int.toNat p))), (3, vi (m + 1)), (4, vi z12)]) (st2 := []) kX3_isSideMet_85 rfl ?_
          refine q_goto (tgt := 24) eX3_isSideMet_88 (by decide) ?_
          refine q_sub (lv2 := [(0, vr j), (1, vi p), (2, vr (b + 6 + 3 * (Int.toNat p))), (3, vi (m + 1))]) [0, 1, 2, 3] rfl ?_
          exact ih7 (m + 1) (⟨⟨by omega, by omega⟩, fun k k0 k1 ⟨q1, q2⟩ => by
          by_cases e : k = m
          · subst e; rw [← e13] at q2; exact e25 q2
          · exact hnk k k0 (by omega) ⟨q1, q2⟩⟩) (by omega)

set_option maxHeartbeats 1000000 in
theorem c_X3_reasonOfLine {w : am_w} {h : AH} {j b l : Nat} {D cm : Int → Int} {sc : Nat} {ax ay bx by' lp lc l1 l2 : Int} (hJ : JD h j b l) (hB : BD h b D cm sc) (hD : VD D) (hL : LN h l ax ay bx by' lp lc l1 l2) (h_ax : am_c ax) (h_ay : am_c ay) (h_bx : am_c bx) (h_by : am_c by') (q1 : -1 ≤ lp ∧ lp ≤ 100) (q2 : -1 ≤ lc ∧ lc ≤ 100) (q3 : -1 ≤ l1 ∧ l1 ≤ 100) (q4 : -1 ≤ l2 ∧ l2 ≤ 100) (hE : VE D) (hab : bx ≠ ax ∨ by' ≠ ay)  : AE w m_X3_reasonOfLine 5 [vr j] h (am_intp h (fun z => gm_lr D lp lc l1 l2 ax ay bx by' z)) := by
  refine AE.of wf_X3_reasonOfLine (Nat.le_of_ble_eq_true rfl) (am_ok_ip) ?_
  have hJ := id hJ
  refine q_blk (lv2 := [(0, vr j)]) (st2 := [vr j]) kX3_reasonOfLine_0 rfl ?_
  refine q_Vi (av := []) (st := []) (c_X3_isStoneOnLine hJ hB hD hL h_ax h_ay h_bx h_by) lk_RX3_69 (by decide) rfl rfl (JD.ob hJ) ⟨_, rfl, rfl⟩ (Nat.le_of_ble_eq_true rfl) eX3_reasonOfLine_1 (fun z1 e2 => ?_)
  rcases e2 with ⟨rfl, e2⟩ | ⟨rfl, e2⟩
  · skip
    refine AQ.of (AS.if_ne_t (tgt := 14) eX3_reasonOfLine_4 (by decide) ⟨by decide, by decide⟩ (by decide)) ?_
    refine q_blk (lv2 := [(0, vr j)]) (st2 := [vi 4]) kX3_reasonOfLine_14 rfl ?_
    exact q_ri rfl eX3_reasonOfLine_15 ⟨4, rfl, Or.inl ⟨Or.inl e2, rfl⟩, rfl⟩
  · skip
    refine AQ.of (AS.if_ne_f eX3_reasonOfLine_4 ⟨by decide, by decide⟩ (by decide) (by decide)) ?_
    refine q_blk (lv2 := [(0, vr j)]) (st2 := [vr j]) kX3_reasonOfLine_7 rfl ?_
    refine q_Vi (av := []) (st := []) (c_X3_isCornerOnLine hJ hB hD hL h_ax h_ay h_bx h_by q1 q2 q3 q4) lk_RX3_73 (by decide) rfl rfl (JD.ob hJ) ⟨_, rfl, rfl⟩ (Nat.le_of_ble_eq_true rfl) eX3_reasonOfLine_8 (fun z3 e4 => ?_)
    rcases e4 with ⟨rfl, e4⟩ | ⟨rfl, e4⟩
    · skip
      refine AQ.of (AS.if_eq_f eX3_reasonOfLine_11 ⟨by decide, by decide⟩ (by decide) (by decide)) ?_
      refine q_blk (lv2 := [(0, vr j)]) (st2 := [vi 4]) kX3_reasonOfLine_14 rfl ?_
      exact q_ri rfl eX3_reasonOfLine_15 ⟨4, rfl, Or.inl ⟨Or.inr e4, rfl⟩, rfl⟩
    · skip
      refine AQ.of (AS.if_eq_t (tgt := 16) eX3_reasonOfLine_11 (by decide) ⟨by decide, by decide⟩ (by decide)) ?_
      refine q_blk (lv2 := [(0, vr j)]) (st2 := [vr j]) kX3_reasonOfLine_16 rfl ?_
      refine q_Vi (av := []) (st := []) (c_X3_isSideMet hJ hB hD hL h_ax h_ay h_bx h_by q1 q2 q3 q4 hE hab) lk_RX3_76 (by decide) rfl rfl (JD.ob hJ) ⟨_, rfl, rfl⟩ (Nat.le_of_ble_eq_true rfl) eX3_reasonOfLine_17 (fun z5 e6 => ?_)
      rcases e6 with ⟨rfl, e6⟩ | ⟨rfl, e6⟩
      · skip
        refine AQ.of (AS.if_eq_f eX3_reasonOfLine_20 ⟨by decide, by decide⟩ (by decide) (by decide)) ?_
        refine q_blk (lv2 := [(0, vr j)]) (st2 := [vi 5]) kX3_reasonOfLine_23 rfl ?_
        refine q_goto (tgt := 28) eX3_reasonOfLine_24 (by decide) ?_
        exact q_ri rfl eX3_reasonOfLine_28 ⟨5, rfl, Or.inr ⟨(fun q => q.elim e2 e4), Or.inl ⟨e6, rfl⟩⟩, rfl⟩
      · skip
        refine AQ.of (AS.if_eq_t (tgt := 27) eX3_reasonOfLine_20 (by decide) ⟨by decide, by decide⟩ (by decide)) ?_
        refine q_blk (lv2 := [(0, vr j)]) (st2 := [vi 0]) kX3_reasonOfLine_27 rfl ?_
        exact q_ri rfl eX3_reasonOfLine_28 ⟨0, rfl, Or.inr ⟨(fun q => q.elim e2 e4), Or.inr ⟨e6, rfl⟩⟩, rfl⟩

/-- a line's place, whatever it says -/
def LJ (h : AH) (l : Nat) : Prop := ∃ ax ay bx by' lp lc l1 l2, LN h l ax ay bx by' lp lc l1 l2 ∧ (-1 ≤ lp ∧ lp ≤ 100) ∧ (-1 ≤ lc ∧ lc ≤ 100) ∧ (-1 ≤ l1 ∧ l1 ≤ 100) ∧ (-1 ≤ l2 ∧ l2 ≤ 100)
theorem LJ.kept {h h1 : AH} {l : Nat} {lo hi : Nat} (hL : LJ h l) (f : am_fr h h1 lo hi) (hd : l < lo ∨ hi ≤ l) : LJ h1 l := by
  obtain ⟨a, b, c, d, e, g, i, j, h1, h2⟩ := hL
  exact ⟨a, b, c, d, e, g, i, j, h1.kept f hd, h2⟩
theorem gm_lr_n {D : Int → Int} {lc l1 l2 ax ay bx by' z : Int} (h : gm_lr D (-1) lc l1 l2 ax ay bx by' z) : gm_lr D (-1) (-1) (-1) (-1) ax ay bx by' z := by
  have e1 : gm_bc D (-1) lc ax ay bx by' ↔ gm_bc D (-1) (-1) ax ay bx by' := by
    constructor
    · rintro ⟨p, p0, p1, k, k0, k1, k2, k3⟩
      exact ⟨p, p0, p1, k, k0, k1, by omega, k3⟩
    · rintro ⟨p, p0, p1, k, k0, k1, k2, k3⟩
      exact ⟨p, p0, p1, k, k0, k1, by omega, k3⟩
  have e2 : gm_cr D (-1) l1 l2 ax ay bx by' ↔ gm_cr D (-1) (-1) (-1) ax ay bx by' := by
    constructor
    · rintro ⟨p, p0, p1, k, k0, k1, k2, k3⟩
      exact ⟨p, p0, p1, k, k0, k1, by omega, k3⟩
    · rintro ⟨p, p0, p1, k, k0, k1, k2, k3⟩
      exact ⟨p, p0, p1, k, k0, k1, by omega, k3⟩
  unfold gm_lr at *
  rw [← e1, ← e2]
  exact h
theorem gm_lr_r {D : Int → Int} {lp lc l1 l2 ax ay bx by' z : Int} (h : gm_lr D lp lc l1 l2 ax ay bx by' z) : z = 0 ∨ z = 4 ∨ z = 5 := by
  rcases h with ⟨-, h⟩ | ⟨-, ⟨-, h⟩ | ⟨-, h⟩⟩ <;> omega
/-- why a corner may not be put, a polygon closed, a side bent, a corner taken out -/
def gm_rC (D : Int → Int) (p x y z : Int) : Prop := (pC D p = 1 ∧ z = 1) ∨ (pC D p = 0 ∧ ((pN D p = 12 ∧ z = 2) ∨ (pN D p < 12 ∧ ((gm_tk D x y ∧ z = 3) ∨ (¬ gm_tk D x y ∧ gm_lr D (-1) (-1) (-1) (-1) (pX D p (pN D p - 1)) (pY D p (pN D p - 1)) x y z)))))
def gm_rL (D : Int → Int) (p z : Int) : Prop := (pC D p = 1 ∧ z = 1) ∨ (pC D p = 0 ∧ ((pN D p < 3 ∧ z = 6) ∨ (3 ≤ pN D p ∧ gm_lr D (-1) (-1) (-1) (-1) (pX D p (pN D p - 1)) (pY D p (pN D p - 1)) (pX D p 0) (pY D p 0) z)))
def gm_rB (D : Int → Int) (p k x y z : Int) : Prop := (pC D p = 0 ∧ z = 1) ∨ (pC D p = 1 ∧ ((pN D p = 12 ∧ z = 2) ∨ (pN D p < 12 ∧ ((gm_tk D x y ∧ z = 3) ∨ (¬ gm_tk D x y ∧ ∃ z1, gm_lr D p (-1) k (-1) (pX D p k) (pY D p k) x y z1 ∧ ((z1 ≠ 0 ∧ z = z1) ∨ (z1 = 0 ∧ gm_lr D p (-1) k (-1) (pX D p (gm_nx (pN D p) k)) (pY D p (gm_nx (pN D p) k)) x y z)))))))
def gm_rT (D : Int → Int) (p k z : Int) : Prop := (pC D p = 0 ∧ z = 1) ∨ (pC D p = 1 ∧ ((pN D p = 3 ∧ z = 6) ∨ (3 < pN D p ∧ gm_lr D p k (gm_pv (pN D p) k) k (pX D p (gm_pv (pN D p) k)) (pY D p (gm_pv (pN D p) k)) (pX D p (gm_nx (pN D p) k)) (pY D p (gm_nx (pN D p) k)) z)))

theorem gm_tk_ne {D : Int → Int} {x y p k : Int} (h : ¬ gm_tk D x y) (p0 : 0 ≤ p) (p1 : p < D 3) (k0 : 0 ≤ k) (k1 : k < pN D p) : x ≠ pX D p k ∨ y ≠ pY D p k := by
  refine Decidable.byContradiction fun q => h (Or.inr ⟨p, p0, p1, k, k0, k1, ?_, ?_⟩) <;> omega

set_option maxHeartbeats 1000000 in
theorem c_X3_reasonOfCorner {w : am_w} {h : AH} {j b l : Nat} {D cm : Int → Int} {sc : Nat} (hJ : JD h j b l) (hB : BD h b D cm sc) (hD : VD D) (hE : VE D) (hLJ : LJ h l) (hlj : l ≠ j) (hlb : l < b ∨ b + 24 ≤ l) {p : Int} (p0 : 0 ≤ p) (p1 : p < D 3) {x y : Int} (h_x : am_c x) (h_y : am_c y)  : AE w m_X3_reasonOfCorner 6 [vr j, vi p, vi x, vi y] h (am_int (fun z h1 => gm_rC D p x y z ∧ LJ h1 l ∧ am_fr h h1 l (l + 1))) := by
  refine AE.of wf_X3_reasonOfCorner (Nat.le_of_ble_eq_true rfl) (am_ok_i) ?_
  obtain ⟨⟨sx, sy, sv, ⟨b0, b1, b2, b3, b4, b5⟩, hst⟩, hall, hsh⟩ := id hB
  have d0 := hD.1
  have d1 := hD.2.1
  have d2 := hD.2.2.1
  have d3 := hD.2.2.2.1
  have hJ := id hJ
  unfold JD at hJ
  obtain ⟨ax, ay, bx, by', lp, lc, l1, l2, hL, q1, q2, q3, q4⟩ := hLJ
  have vp := hD.2.2.2.2.2 p p0 p1
  have vn := vp.2.1
  refine q_blk (lv2 := [(0, vr j), (1, vi p), (2, vi x), (3, vi y)]) (st2 := [vr j]) kX3_reasonOfCorner_0 rfl ?_
  refine q_gr eX3_reasonOfCorner_1 fl_RX3_18 (Or.inl ⟨_, rfl⟩) hJ rfl ?_
  refine q_blk (lv2 := [(0, vr j), (1, vi p), (2, vi x), (3, vi y)]) (st2 := [vi p, vr b]) kX3_reasonOfCorner_4 rfl ?_
  refine q_Vr (av := [vi p]) (st := []) (c_X0_shapeAt hB hD (by omega) (by omega)) lk_RX3_22 (by decide) rfl rfl hB.ob ⟨_, rfl, rfl⟩ (Nat.le_of_ble_eq_true rfl) eX3_reasonOfCorner_5 (fun z1 e2 => ?_)
  subst e2
  have hS3 := hB.sh (p := p) (by omega) (by omega)
  obtain ⟨fx3, fy3, hP3, hn3, hc3, hx3⟩ := id hS3
  have hV3 := hD.vc (p := p) (by omega) (by omega)
  refine q_blk (lv2 := [(0, vr j), (1, vi p), (2, vi x), (3, vi y), (4, vr (b + 6 + 3 * (Int.toNat p)))]) (st2 := [vr (b + 6 + 3 * (Int.toNat p))]) kX3_reasonOfCorner_8 rfl ?_
  refine q_gi eX3_reasonOfCorner_12 fl_RX3_28 (Or.inr rfl) hP3.1 (z := (pC D p)) rfl ?_
  refine AQ.if_eq (tgt := 20) eX3_reasonOfCorner_15 (by decide) (by first | assumption | exact ⟨by omega, by omega⟩) (fun br4 => ?_) (fun br4 => ?_)
  · skip
    refine q_blk (lv2 := [(0, vr j), (1, vi p), (2, vi x), (3, vi y), (4, vr (b + 6 + 3 * (Int.toNat p)))]) (st2 := [vr (b + 6 + 3 * (Int.toNat p))]) kX3_reasonOfCorner_20 rfl ?_
    refine q_gi eX3_reasonOfCorner_22 fl_RX3_34 (Or.inl rfl) hP3.1 (z := (pN D p)) rfl ?_
    refine q_blk (lv2 := [(0, vr j), (1, vi p), (2, vi x), (3, vi y), (4, vr (b + 6 + 3 * (Int.toNat p)))]) (st2 := [vi 12, vi (pN D p)]) kX3_reasonOfCorner_25 rfl ?_
    refine AQ.ic_lt (tgt := 32) eX3_reasonOfCorner_27 (by decide) (by first | assumption | exact ⟨by omega, by omega⟩) ⟨by decide, by decide⟩ (fun br5 => ?_) (fun br5 => ?_)
    · skip
      refine q_blk (lv2 := [(0, vr j), (1, vi p), (2, vi x), (3, vi y), (4, vr (b + 6 + 3 * (Int.toNat p)))]) (st2 := [vr j]) kX3_reasonOfCorner_32 rfl ?_
      refine q_gr eX3_reasonOfCorner_33 fl_RX3_18 (Or.inl ⟨_, rfl⟩) hJ rfl ?_
      refine q_blk (lv2 := [(0, vr j), (1, vi p), (2, vi x), (3, vi y), (4, vr (b + 6 + 3 * (Int.toNat p)))]) (st2 := [vi y, vi x, vr b]) kX3_reasonOfCorner_36 rfl ?_
      refine q_Vi (av := [vi x, vi y]) (st := []) (c_X0_isStoneOrCorner hB hD h_x h_y) lk_RX3_38 (by decide) rfl rfl hB.ob ⟨_, rfl, rfl⟩ (Nat.le_of_ble_eq_true rfl) eX3_reasonOfCorner_38 (fun z6 e7 => ?_)
      rcases e7 with ⟨rfl, e7⟩ | ⟨rfl, e7⟩
      · skip
        refine AQ.of (AS.if_eq_f eX3_reasonOfCorner_41 ⟨by decide, by decide⟩ (by decide) (by decide)) ?_
        refine q_blk (lv2 := [(0, vr j), (1, vi p), (2, vi x), (3, vi y), (4, vr (b + 6 + 3 * (Int.toNat p)))]) (st2 := [vi 3]) kX3_reasonOfCorner_44 rfl ?_
        exact q_ri rfl eX3_reasonOfCorner_45 ⟨3, rfl, Or.inr ⟨by omega, Or.inr ⟨by omega, Or.inl ⟨e7, rfl⟩⟩⟩, ⟨_, _, _, _, _, _, _, _, hL, by omega, by omega, by omega, by omega⟩, am_fr.rf⟩
      · skip
        refine AQ.of (AS.if_eq_t (tgt := 46) eX3_reasonOfCorner_41 (by decide) ⟨by decide, by decide⟩ (by decide)) ?_
        have hab := gm_tk_ne (k := pN D p - 1) e7 p0 p1 (by omega) (by omega)
        refine q_blk (lv2 := [(0, vr j), (1, vi p), (2, vi x), (3, vi y), (4, vr (b + 6 + 3 * (Int.toNat p)))]) (st2 := [vr (b + 6 + 3 * (Int.toNat p))]) kX3_reasonOfCorner_46 rfl ?_
        refine q_gi eX3_reasonOfCorner_48 fl_RX3_34 (Or.inl rfl) hP3.1 (z := (pN D p)) rfl ?_
        refine q_blk (lv2 := [(0, vr j), (1, vi p), (2, vi x), (3, vi y), (4, vr (b + 6 + 3 * (Int.toNat p))), (5, vi ((pN D p) - 1))]) (st2 := [vr j]) kX3_reasonOfCorner_51 rfl ?_
        refine q_gr eX3_reasonOfCorner_56 fl_RX3_12 (Or.inl ⟨_, rfl⟩) hJ rfl ?_
        refine AQ.callVv (av := []) (st := []) (c_X4_loseNothing hL) lk_RX3_42 (by decide) rfl rfl hL.ob ⟨_, rfl, rfl⟩ (Nat.le_of_ble_eq_true rfl) eX3_reasonOfCorner_59 (fun h10 e9 => ?_)
        obtain ⟨Lh10, Fh10⟩ := e9
        have k11 := (Fh10.2 b (by omega)).trans b0
        have k12 := hB.kept Fh10 (by omega) (by omega)
        have k13 := (Fh10.2 (b + 1) (by omega)).trans b1
        have k14 := (Fh10.2 (b + 2) (by omega)).trans b2
        have k15 := (Fh10.2 (b + 3) (by omega)).trans b3
        have k16 := (Fh10.2 (b + 4) (by omega)).trans b4
        have k17 := (Fh10.2 (b + 5) (by omega)).trans b5
        have k18 := (Fh10.2 j (by omega)).trans hJ
        have k19 := (Fh10.2 (b + 6 + 3 * (Int.toNat p)) (by omega)).trans hP3.1
        have k20 := hS3.kept Fh10 (by omega)
        refine q_blk (lv2 := [(0, vr j), (1, vi p), (2, vi x), (3, vi y), (4, vr (b + 6 + 3 * (Int.toNat p))), (5, vi ((pN D p) - 1))]) (st2 := [vr j]) kX3_reasonOfCorner_62 rfl ?_
        refine q_gr eX3_reasonOfCorner_63 fl_RX3_12 (Or.inl ⟨_, rfl⟩) k18 rfl ?_
        refine q_blk (lv2 := [(0, vr j), (1, vi p), (2, vi x), (3, vi y), (4, vr (b + 6 + 3 * (Int.toNat p))), (5, vi ((pN D p) - 1))]) (st2 := [vi ((pN D p) - 1), vr (b + 6 + 3 * (Int.toNat p)), vr l]) kX3_reasonOfCorner_66 rfl ?_
        refine q_Vi (av := [vi ((pN D p) - 1)]) (st := [vr l]) (c_X7_xAt k20 (by omega) (by omega)) lk_RX3_45 (by decide) rfl rfl k20.ob ⟨_, rfl, rfl⟩ (Nat.le_of_ble_eq_true rfl) eX3_reasonOfCorner_70 (fun z21 e22 => ?_)
        subst e22
        refine q_blk (lv2 := [(0, vr j), (1, vi p), (2, vi x), (3, vi y), (4, vr (b + 6 + 3 * (Int.toNat p))), (5, vi ((pN D p) - 1))]) (st2 := [vi ((pN D p) - 1), vr (b + 6 + 3 * (Int.toNat p)), vi ((pX D p) ((pN D p) - 1)), vr l]) kX3_reasonOfCorner_73 rfl ?_
        refine q_Vi (av := [vi ((pN D p) - 1)]) (st := [vi ((pX D p) ((pN D p) - 1)), vr l]) (c_X7_yAt k20 (by omega) (by omega)) lk_RX3_49 (by decide) rfl rfl k20.ob ⟨_, rfl, rfl⟩ (Nat.le_of_ble_eq_true rfl) eX3_reasonOfCorner_77 (fun z23 e24 => ?_)
        subst e24
        refine q_blk (lv2 := [(0, vr j), (1, vi p), (2, vi x), (3, vi y), (4, vr (b + 6 + 3 * (Int.toNat p))), (5, vi ((pN D p) - 1))]) (st2 := [vi y, vi x, vi ((pY D p) ((pN D p) - 1)), vi ((pX D p) ((pN D p) - 1)), vr l]) kX3_reasonOfCorner_80 rfl ?_
        refine AQ.callVv (av := [vi ((pX D p) ((pN D p) - 1)), vi ((pY D p) ((pN D p) - 1)), vi x, vi y]) (st := []) (c_X4_draw Lh10 (x := ((pX D p) ((pN D p) - 1))) (y := ((pY D p) ((pN D p) - 1))) (z := x) (t := y)) lk_RX3_52 (by decide) rfl rfl Lh10.ob ⟨_, rfl, rfl⟩ (Nat.le_of_ble_eq_true rfl) eX3_reasonOfCorner_82 (fun h27 e26 => ?_)
        obtain ⟨Lh27, Fh27⟩ := e26
        have k28 := (Fh27.2 b (by omega)).trans k11
        have k29 := k12.kept Fh27 (by omega) (by omega)
        have k30 := (Fh27.2 (b + 1) (by omega)).trans k13
        have k31 := (Fh27.2 (b + 2) (by omega)).trans k14
        have k32 := (Fh27.2 (b + 3) (by omega)).trans k15
        have k33 := (Fh27.2 (b + 4) (by omega)).trans k16
        have k34 := (Fh27.2 (b + 5) (by omega)).trans k17
        have k35 := (Fh27.2 j (by omega)).trans k18
        have k36 := (Fh27.2 (b + 6 + 3 * (Int.toNat p)) (by omega)).trans k19
        have k37 := k20.kept Fh27 (by omega)
        refine q_blk (lv2 := [(0, vr j), (1, vi p), (2, vi x), (3, vi y), (4, vr (b + 6 + 3 * (Int.toNat p))), (5, vi ((pN D p) - 1))]) (st2 := [vr j]) kX3_reasonOfCorner_85 rfl ?_
        refine q_Vi (av := []) (st := []) (c_X3_reasonOfLine k35 k29 hD Lh27 (hV3 ((pN D p) - 1) (by omega) (by omega)).1 (hV3 ((pN D p) - 1) (by omega) (by omega)).2 h_x h_y (by omega) (by omega) (by omega) (by omega) hE hab) lk_RX3_56 (by decide) rfl rfl (JD.ob k35) ⟨_, rfl, rfl⟩ (Nat.le_of_ble_eq_true rfl) eX3_reasonOfCorner_86 (fun z38 e39 => ?_)
        have e39r := gm_lr_r e39
        exact q_ri rfl eX3_reasonOfCorner_89 ⟨z38, rfl, Or.inr ⟨by omega, Or.inr ⟨by omega, Or.inr ⟨e7, gm_lr_n e39⟩⟩⟩, ⟨_, _, _, _, _, _, _, _, Lh27, by omega, by omega, by omega, by omega⟩, ((am_fr.rf.tr Fh10).tr Fh27)⟩
    · skip
      refine q_blk (lv2 := [(0, vr j), (1, vi p), (2, vi x), (3, vi y), (4, vr (b + 6 + 3 * (Int.toNat p)))]) (st2 := [vi 2]) kX3_reasonOfCorner_30 rfl ?_
      exact q_ri rfl eX3_reasonOfCorner_31 ⟨2, rfl, Or.inr ⟨by omega, Or.inl ⟨by omega, rfl⟩⟩, ⟨_, _, _, _, _, _, _, _, hL, by omega, by omega, by omega, by omega⟩, am_fr.rf⟩
  · skip
    refine q_blk (lv2 := [(0, vr j), (1, vi p), (2, vi x), (3, vi y), (4, vr (b + 6 + 3 * (Int.toNat p)))]) (st2 := [vi 1]) kX3_reasonOfCorner_18 rfl ?_
    exact q_ri rfl eX3_reasonOfCorner_19 ⟨1, rfl, Or.inl ⟨by omega, rfl⟩, ⟨_, _, _, _, _, _, _, _, hL, by omega, by omega, by omega, by omega⟩, am_fr.rf⟩

set_option maxHeartbeats 1000000 in
theorem c_X3_reasonOfClosing {w : am_w} {h : AH} {j b l : Nat} {D cm : Int → Int} {sc : Nat} (hJ : JD h j b l) (hB : BD h b D cm sc) (hD : VD D) (hE : VE D) (hLJ : LJ h l) (hlj : l ≠ j) (hlb : l < b ∨ b + 24 ≤ l) {p : Int} (p0 : 0 ≤ p) (p1 : p < D 3)  : AE w m_X3_reasonOfClosing 6 [vr j, vi p] h (am_int (fun z h1 => gm_rL D p z ∧ LJ h1 l ∧ am_fr h h1 l (l + 1))) := by
  refine AE.of wf_X3_reasonOfClosing (Nat.le_of_ble_eq_true rfl) (am_ok_i) ?_
  obtain ⟨⟨sx, sy, sv, ⟨b0, b1, b2, b3, b4, b5⟩, hst⟩, hall, hsh⟩ := id hB
  have d0 := hD.1
  have d1 := hD.2.1
  have d2 := hD.2.2.1
  have d3 := hD.2.2.2.1
  have hJ := id hJ
  unfold JD at hJ
  obtain ⟨ax, ay, bx, by', lp, lc, l1, l2, hL, q1, q2, q3, q4⟩ := hLJ
  have vp := hD.2.2.2.2.2 p p0 p1
  have vn := vp.2.1
  refine q_blk (lv2 := [(0, vr j), (1, vi p)]) (st2 := [vr j]) kX3_reasonOfClosing_0 rfl ?_
  refine q_gr eX3_reasonOfClosing_1 fl_RX3_18 (Or.inl ⟨_, rfl⟩) hJ rfl ?_
  refine q_blk (lv2 := [(0, vr j), (1, vi p)]) (st2 := [vi p, vr b]) kX3_reasonOfClosing_4 rfl ?_
  refine q_Vr (av := [vi p]) (st := []) (c_X0_shapeAt hB hD (by omega) (by omega)) lk_RX3_22 (by decide) rfl rfl hB.ob ⟨_, rfl, rfl⟩ (Nat.le_of_ble_eq_true rfl) eX3_reasonOfClosing_5 (fun z1 e2 => ?_)
  subst e2
  have hS3 := hB.sh (p := p) (by omega) (by omega)
  obtain ⟨fx3, fy3, hP3, hn3, hc3, hx3⟩ := id hS3
  have hV3 := hD.vc (p := p) (by omega) (by omega)
  refine q_blk (lv2 := [(0, vr j), (1, vi p), (2, vr (b + 6 + 3 * (Int.toNat p)))]) (st2 := [vr (b + 6 + 3 * (Int.toNat p))]) kX3_reasonOfClosing_8 rfl ?_
  refine q_gi eX3_reasonOfClosing_10 fl_RX3_28 (Or.inr rfl) hP3.1 (z := (pC D p)) rfl ?_
  refine AQ.if_eq (tgt := 18) eX3_reasonOfClosing_13 (by decide) (by first | assumption | exact ⟨by omega, by omega⟩) (fun br4 => ?_) (fun br4 => ?_)
  · skip
    refine q_blk (lv2 := [(0, vr j), (1, vi p), (2, vr (b + 6 + 3 * (Int.toNat p)))]) (st2 := [vr (b + 6 + 3 * (Int.toNat p))]) kX3_reasonOfClosing_18 rfl ?_
    refine q_gi eX3_reasonOfClosing_19 fl_RX3_34 (Or.inl rfl) hP3.1 (z := (pN D p)) rfl ?_
    refine q_blk (lv2 := [(0, vr j), (1, vi p), (2, vr (b + 6 + 3 * (Int.toNat p)))]) (st2 := [vi 3, vi (pN D p)]) kX3_reasonOfClosing_22 rfl ?_
    refine AQ.ic_ge (tgt := 29) eX3_reasonOfClosing_23 (by decide) (by first | assumption | exact ⟨by omega, by omega⟩) ⟨by decide, by decide⟩ (fun br5 => ?_) (fun br5 => ?_)
    · skip
      have hab := hE.ne p0 p1 (k := pN D p - 1) (m := 0) (by omega) (by omega) (by omega) (by omega) (by omega)
      refine q_blk (lv2 := [(0, vr j), (1, vi p), (2, vr (b + 6 + 3 * (Int.toNat p)))]) (st2 := [vr (b + 6 + 3 * (Int.toNat p))]) kX3_reasonOfClosing_29 rfl ?_
      refine q_gi eX3_reasonOfClosing_30 fl_RX3_34 (Or.inl rfl) hP3.1 (z := (pN D p)) rfl ?_
      refine q_blk (lv2 := [(0, vr j), (1, vi p), (2, vr (b + 6 + 3 * (Int.toNat p))), (3, vi ((pN D p) - 1))]) (st2 := [vr j]) kX3_reasonOfClosing_33 rfl ?_
      refine q_gr eX3_reasonOfClosing_37 fl_RX3_12 (Or.inl ⟨_, rfl⟩) hJ rfl ?_
      refine AQ.callVv (av := []) (st := []) (c_X4_loseNothing hL) lk_RX3_42 (by decide) rfl rfl hL.ob ⟨_, rfl, rfl⟩ (Nat.le_of_ble_eq_true rfl) eX3_reasonOfClosing_40 (fun h8 e7 => ?_)
      obtain ⟨Lh8, Fh8⟩ := e7
      have k9 := (Fh8.2 b (by omega)).trans b0
      have k10 := hB.kept Fh8 (by omega) (by omega)
      have k11 := (Fh8.2 (b + 1) (by omega)).trans b1
      have k12 := (Fh8.2 (b + 2) (by omega)).trans b2
      have k13 := (Fh8.2 (b + 3) (by omega)).trans b3
      have k14 := (Fh8.2 (b + 4) (by omega)).trans b4
      have k15 := (Fh8.2 (b + 5) (by omega)).trans b5
      have k16 := (Fh8.2 j (by omega)).trans hJ
      have k17 := (Fh8.2 (b + 6 + 3 * (Int.toNat p)) (by omega)).trans hP3.1
      have k18 := hS3.kept Fh8 (by omega)
      refine q_blk (lv2 := [(0, vr j), (1, vi p), (2, vr (b + 6 + 3 * (Int.toNat p))), (3, vi ((pN D p) - 1))]) (st2 := [vr j]) kX3_reasonOfClosing_43 rfl ?_
      refine q_gr eX3_reasonOfClosing_44 fl_RX3_12 (Or.inl ⟨_, rfl⟩) k16 rfl ?_
      refine q_blk (lv2 := [(0, vr j), (1, vi p), (2, vr (b + 6 + 3 * (Int.toNat p))), (3, vi ((pN D p) - 1))]) (st2 := [vi ((pN D p) - 1), vr (b + 6 + 3 * (Int.toNat p)), vr l]) kX3_reasonOfClosing_47 rfl ?_
      refine q_Vi (av := [vi ((pN D p) - 1)]) (st := [vr l]) (c_X7_xAt k18 (by omega) (by omega)) lk_RX3_45 (by decide) rfl rfl k18.ob ⟨_, rfl, rfl⟩ (Nat.le_of_ble_eq_true rfl) eX3_reasonOfClosing_49 (fun z19 e20 => ?_)
      subst e20
      refine q_blk (lv2 := [(0, vr j), (1, vi p), (2, vr (b + 6 + 3 * (Int.toNat p))), (3, vi ((pN D p) - 1))]) (st2 := [vi ((pN D p) - 1), vr (b + 6 + 3 * (Int.toNat p)), vi ((pX D p) ((pN D p) - 1)), vr l]) kX3_reasonOfClosing_52 rfl ?_
      refine q_Vi (av := [vi ((pN D p) - 1)]) (st := [vi ((pX D p) ((pN D p) - 1)), vr l]) (c_X7_yAt k18 (by omega) (by omega)) lk_RX3_49 (by decide) rfl rfl k18.ob ⟨_, rfl, rfl⟩ (Nat.le_of_ble_eq_true rfl) eX3_reasonOfClosing_54 (fun z21 e22 => ?_)
      subst e22
      refine q_blk (lv2 := [(0, vr j), (1, vi p), (2, vr (b + 6 + 3 * (Int.toNat p))), (3, vi ((pN D p) - 1))]) (st2 := [vi 0, vr (b + 6 + 3 * (Int.toNat p)), vi ((pY D p) ((pN D p) - 1)), vi ((pX D p) ((pN D p) - 1)), vr l]) kX3_reasonOfClosing_57 rfl ?_
      refine q_Vi (av := [vi 0]) (st := [vi ((pY D p) ((pN D p) - 1)), vi ((pX D p) ((pN D p) - 1)), vr l]) (c_X7_xAt k18 (by omega) (by omega)) lk_RX3_45 (by decide) rfl rfl k18.ob ⟨_, rfl, rfl⟩ (Nat.le_of_ble_eq_true rfl) eX3_reasonOfClosing_59 (fun z23 e24 => ?_)
      subst e24
      refine q_blk (lv2 := [(0, vr j), (1, vi p), (2, vr (b + 6 + 3 * (Int.toNat p))), (3, vi ((pN D p) - 1))]) (st2 := [vi 0, vr (b + 6 + 3 * (Int.toNat p)), vi ((pX D p) 0), vi ((pY D p) ((pN D p) - 1)), vi ((pX D p) ((pN D p) - 1)), vr l]) kX3_reasonOfClosing_62 rfl ?_
      refine q_Vi (av := [vi 0]) (st := [vi ((pX D p) 0), vi ((pY D p) ((pN D p) - 1)), vi ((pX D p) ((pN D p) - 1)), vr l]) (c_X7_yAt k18 (by omega) (by omega)) lk_RX3_49 (by decide) rfl rfl k18.ob ⟨_, rfl, rfl⟩ (Nat.le_of_ble_eq_true rfl) eX3_reasonOfClosing_64 (fun z25 e26 => ?_)
      subst e26
      refine AQ.callVv (av := [vi ((pX D p) ((pN D p) - 1)), vi ((pY D p) ((pN D p) - 1)), vi ((pX D p) 0), vi ((pY D p) 0)]) (st := []) (c_X4_draw Lh8 (x := ((pX D p) ((pN D p) - 1))) (y := ((pY D p) ((pN D p) - 1))) (z := ((pX D p) 0)) (t := ((pY D p) 0))) lk_RX3_52 (by decide) rfl rfl Lh8.ob ⟨_, rfl, rfl⟩ (Nat.le_of_ble_eq_true rfl) eX3_reasonOfClosing_67 (fun h29 e28 => ?_)
      obtain ⟨Lh29, Fh29⟩ := e28
      have k30 := (Fh29.2 b (by omega)).trans k9
      have k31 := k10.kept Fh29 (by omega) (by omega)
      have k32 := (Fh29.2 (b + 1) (by omega)).trans k11
      have k33 := (Fh29.2 (b + 2) (by omega)).trans k12
      have k34 := (Fh29.2 (b + 3) (by omega)).trans k13
      have k35 := (Fh29.2 (b + 4) (by omega)).trans k14
      have k36 := (Fh29.2 (b + 5) (by omega)).trans k15
      have k37 := (Fh29.2 j (by omega)).trans k16
      have k38 := (Fh29.2 (b + 6 + 3 * (Int.toNat p)) (by omega)).trans k17
      have k39 := k18.kept Fh29 (by omega)
      refine q_blk (lv2 := [(0, vr j), (1, vi p), (2, vr (b + 6 + 3 * (Int.toNat p))), (3, vi ((pN D p) - 1))]) (st2 := [vr j]) kX3_reasonOfClosing_70 rfl ?_
      refine q_Vi (av := []) (st := []) (c_X3_reasonOfLine k37 k31 hD Lh29 (hV3 ((pN D p) - 1) (by omega) (by omega)).1 (hV3 ((pN D p) - 1) (by omega) (by omega)).2 (hV3 0 (by omega) (by omega)).1 (hV3 0 (by omega) (by omega)).2 (by omega) (by omega) (by omega) (by omega) hE hab) lk_RX3_56 (by decide) rfl rfl (JD.ob k37) ⟨_, rfl, rfl⟩ (Nat.le_of_ble_eq_true rfl) eX3_reasonOfClosing_71 (fun z40 e41 => ?_)
      have e41r := gm_lr_r e41
      exact q_ri rfl eX3_reasonOfClosing_74 ⟨z40, rfl, Or.inr ⟨by omega, Or.inr ⟨by omega, gm_lr_n e41⟩⟩, ⟨_, _, _, _, _, _, _, _, Lh29, by omega, by omega, by omega, by omega⟩, ((am_fr.rf.tr Fh8).tr Fh29)⟩
    · skip
      refine q_blk (lv2 := [(0, vr j), (1, vi p), (2, vr (b + 6 + 3 * (Int.toNat p)))]) (st2 := [vi 6]) kX3_reasonOfClosing_26 rfl ?_
      exact q_ri rfl eX3_reasonOfClosing_28 ⟨6, rfl, Or.inr ⟨by omega, Or.inl ⟨by omega, rfl⟩⟩, ⟨_, _, _, _, _, _, _, _, hL, by omega, by omega, by omega, by omega⟩, am_fr.rf⟩
  · skip
    refine q_blk (lv2 := [(0, vr j), (1, vi p), (2, vr (b + 6 + 3 * (Int.toNat p)))]) (st2 := [vi 1]) kX3_reasonOfClosing_16 rfl ?_
    exact q_ri rfl eX3_reasonOfClosing_17 ⟨1, rfl, Or.inl ⟨by omega, rfl⟩, ⟨_, _, _, _, _, _, _, _, hL, by omega, by omega, by omega, by omega⟩, am_fr.rf⟩

set_option maxHeartbeats 1000000 in
theorem c_X3_reasonOfBend {w : am_w} {h : AH} {j b l : Nat} {D cm : Int → Int} {sc : Nat} (hJ : JD h j b l) (hB : BD h b D cm sc) (hD : VD D) (hE : VE D) (hLJ : LJ h l) (hlj : l ≠ j) (hlb : l < b ∨ b + 24 ≤ l) {p : Int} (p0 : 0 ≤ p) (p1 : p < D 3) {k : Int} (k0 : 0 ≤ k) (k1 : k < pN D p) {x y : Int} (h_x : am_c x) (h_y : am_c y)  : AE w m_X3_reasonOfBend 6 [vr j, vi p, vi k, vi x, vi y] h (am_int (fun z h1 => gm_rB D p k x y z ∧ LJ h1 l ∧ am_fr h h1 l (l + 1))) := by
  refine AE.of wf_X3_reasonOfBend (Nat.le_of_ble_eq_true rfl) (am_ok_i) ?_
  obtain ⟨⟨sx, sy, sv, ⟨b0, b1, b2, b3, b4, b5⟩, hst⟩, hall, hsh⟩ := id hB
  have d0 := hD.1
  have d1 := hD.2.1
  have d2 := hD.2.2.1
  have d3 := hD.2.2.2.1
  have hJ := id hJ
  unfold JD at hJ
  obtain ⟨ax, ay, bx, by', lp, lc, l1, l2, hL, q1, q2, q3, q4⟩ := hLJ
  have vp := hD.2.2.2.2.2 p p0 p1
  have vn := vp.2.1
  refine q_blk (lv2 := [(0, vr j), (1, vi p), (2, vi k), (3, vi x), (4, vi y)]) (st2 := [vr j]) kX3_reasonOfBend_0 rfl ?_
  refine q_gr eX3_reasonOfBend_1 fl_RX3_18 (Or.inl ⟨_, rfl⟩) hJ rfl ?_
  refine q_blk (lv2 := [(0, vr j), (1, vi p), (2, vi k), (3, vi x), (4, vi y)]) (st2 := [vi p, vr b]) kX3_reasonOfBend_4 rfl ?_
  refine q_Vr (av := [vi p]) (st := []) (c_X0_shapeAt hB hD (by omega) (by omega)) lk_RX3_22 (by decide) rfl rfl hB.ob ⟨_, rfl, rfl⟩ (Nat.le_of_ble_eq_true rfl) eX3_reasonOfBend_5 (fun z1 e2 => ?_)
  subst e2
  have hS3 := hB.sh (p := p) (by omega) (by omega)
  obtain ⟨fx3, fy3, hP3, hn3, hc3, hx3⟩ := id hS3
  have hV3 := hD.vc (p := p) (by omega) (by omega)
  refine q_blk (lv2 := [(0, vr j), (1, vi p), (2, vi k), (3, vi x), (4, vi y), (5, vr (b + 6 + 3 * (Int.toNat p)))]) (st2 := [vr (b + 6 + 3 * (Int.toNat p))]) kX3_reasonOfBend_8 rfl ?_
  refine q_gi eX3_reasonOfBend_12 fl_RX3_28 (Or.inr rfl) hP3.1 (z := (pC D p)) rfl ?_
  refine AQ.if_ne (tgt := 20) eX3_reasonOfBend_15 (by decide) (by first | assumption | exact ⟨by omega, by omega⟩) (fun br4 => ?_) (fun br4 => ?_)
  · skip
    refine q_blk (lv2 := [(0, vr j), (1, vi p), (2, vi k), (3, vi x), (4, vi y), (5, vr (b + 6 + 3 * (Int.toNat p)))]) (st2 := [vr (b + 6 + 3 * (Int.toNat p))]) kX3_reasonOfBend_20 rfl ?_
    refine q_gi eX3_reasonOfBend_22 fl_RX3_34 (Or.inl rfl) hP3.1 (z := (pN D p)) rfl ?_
    refine q_blk (lv2 := [(0, vr j), (1, vi p), (2, vi k), (3, vi x), (4, vi y), (5, vr (b + 6 + 3 * (Int.toNat p)))]) (st2 := [vi 12, vi (pN D p)]) kX3_reasonOfBend_25 rfl ?_
    refine AQ.ic_lt (tgt := 32) eX3_reasonOfBend_27 (by decide) (by first | assumption | exact ⟨by omega, by omega⟩) ⟨by decide, by decide⟩ (fun br5 => ?_) (fun br5 => ?_)
    · skip
      refine q_blk (lv2 := [(0, vr j), (1, vi p), (2, vi k), (3, vi x), (4, vi y), (5, vr (b + 6 + 3 * (Int.toNat p)))]) (st2 := [vr j]) kX3_reasonOfBend_32 rfl ?_
      refine q_gr eX3_reasonOfBend_33 fl_RX3_18 (Or.inl ⟨_, rfl⟩) hJ rfl ?_
      refine q_blk (lv2 := [(0, vr j), (1, vi p), (2, vi k), (3, vi x), (4, vi y), (5, vr (b + 6 + 3 * (Int.toNat p)))]) (st2 := [vi y, vi x, vr b]) kX3_reasonOfBend_36 rfl ?_
      refine q_Vi (av := [vi x, vi y]) (st := []) (c_X0_isStoneOrCorner hB hD h_x h_y) lk_RX3_38 (by decide) rfl rfl hB.ob ⟨_, rfl, rfl⟩ (Nat.le_of_ble_eq_true rfl) eX3_reasonOfBend_39 (fun z6 e7 => ?_)
      rcases e7 with ⟨rfl, e7⟩ | ⟨rfl, e7⟩
      · skip
        refine AQ.of (AS.if_eq_f eX3_reasonOfBend_42 ⟨by decide, by decide⟩ (by decide) (by decide)) ?_
        refine q_blk (lv2 := [(0, vr j), (1, vi p), (2, vi k), (3, vi x), (4, vi y), (5, vr (b + 6 + 3 * (Int.toNat p)))]) (st2 := [vi 3]) kX3_reasonOfBend_45 rfl ?_
        exact q_ri rfl eX3_reasonOfBend_46 ⟨3, rfl, Or.inr ⟨by omega, Or.inr ⟨by omega, Or.inl ⟨e7, rfl⟩⟩⟩, ⟨_, _, _, _, _, _, _, _, hL, by omega, by omega, by omega, by omega⟩, am_fr.rf⟩
      · skip
        refine AQ.of (AS.if_eq_t (tgt := 47) eX3_reasonOfBend_42 (by decide) ⟨by decide, by decide⟩ (by decide)) ?_
        have hab := gm_tk_ne (k := k) e7 p0 p1 (by omega) (by omega)
        refine q_blk (lv2 := [(0, vr j), (1, vi p), (2, vi k), (3, vi x), (4, vi y), (5, vr (b + 6 + 3 * (Int.toNat p)))]) (st2 := [vr j]) kX3_reasonOfBend_47 rfl ?_
        refine q_gr eX3_reasonOfBend_48 fl_RX3_12 (Or.inl ⟨_, rfl⟩) hJ rfl ?_
        refine q_blk (lv2 := [(0, vr j), (1, vi p), (2, vi k), (3, vi x), (4, vi y), (5, vr (b + 6 + 3 * (Int.toNat p)))]) (st2 := [vi (-1), vi k, vi (-1), vi p, vr l]) kX3_reasonOfBend_51 rfl ?_
        refine AQ.callVv (av := [vi p, vi (-1), vi k, vi (-1)]) (st := []) (c_X4_lose hL (x := p) (y := (-1)) (z := k) (t := (-1))) lk_RX3_60 (by decide) rfl rfl hL.ob ⟨_, rfl, rfl⟩ (Nat.le_of_ble_eq_true rfl) eX3_reasonOfBend_55 (fun h10 e9 => ?_)
        obtain ⟨Lh10, Fh10⟩ := e9
        have k11 := (Fh10.2 b (by omega)).trans b0
        have k12 := hB.kept Fh10 (by omega) (by omega)
        have k13 := (Fh10.2 (b + 1) (by omega)).trans b1
        have k14 := (Fh10.2 (b + 2) (by omega)).trans b2
        have k15 := (Fh10.2 (b + 3) (by omega)).trans b3
        have k16 := (Fh10.2 (b + 4) (by omega)).trans b4
        have k17 := (Fh10.2 (b + 5) (by omega)).trans b5
        have k18 := (Fh10.2 j (by omega)).trans hJ
        have k19 := (Fh10.2 (b + 6 + 3 * (Int.toNat p)) (by omega)).trans hP3.1
        have k20 := hS3.kept Fh10 (by omega)
        refine q_blk (lv2 := [(0, vr j), (1, vi p), (2, vi k), (3, vi x), (4, vi y), (5, vr (b + 6 + 3 * (Int.toNat p)))]) (st2 := [vr j]) kX3_reasonOfBend_58 rfl ?_
        refine q_gr eX3_reasonOfBend_59 fl_RX3_12 (Or.inl ⟨_, rfl⟩) k18 rfl ?_
        refine q_blk (lv2 := [(0, vr j), (1, vi p), (2, vi k), (3, vi x), (4, vi y), (5, vr (b + 6 + 3 * (Int.toNat p)))]) (st2 := [vi k, vr (b + 6 + 3 * (Int.toNat p)), vr l]) kX3_reasonOfBend_62 rfl ?_
        refine q_Vi (av := [vi k]) (st := [vr l]) (c_X7_xAt k20 (by omega) (by omega)) lk_RX3_45 (by decide) rfl rfl k20.ob ⟨_, rfl, rfl⟩ (Nat.le_of_ble_eq_true rfl) eX3_reasonOfBend_65 (fun z21 e22 => ?_)
        subst e22
        refine q_blk (lv2 := [(0, vr j), (1, vi p), (2, vi k), (3, vi x), (4, vi y), (5, vr (b + 6 + 3 * (Int.toNat p)))]) (st2 := [vi k, vr (b + 6 + 3 * (Int.toNat p)), vi ((pX D p) k), vr l]) kX3_reasonOfBend_68 rfl ?_
        refine q_Vi (av := [vi k]) (st := [vi ((pX D p) k), vr l]) (c_X7_yAt k20 (by omega) (by omega)) lk_RX3_49 (by decide) rfl rfl k20.ob ⟨_, rfl, rfl⟩ (Nat.le_of_ble_eq_true rfl) eX3_reasonOfBend_71 (fun z23 e24 => ?_)
        subst e24
        refine q_blk (lv2 := [(0, vr j), (1, vi p), (2, vi k), (3, vi x), (4, vi y), (5, vr (b + 6 + 3 * (Int.toNat p)))]) (st2 := [vi y, vi x, vi ((pY D p) k), vi ((pX D p) k), vr l]) kX3_reasonOfBend_74 rfl ?_
        refine AQ.callVv (av := [vi ((pX D p) k), vi ((pY D p) k), vi x, vi y]) (st := []) (c_X4_draw Lh10 (x := ((pX D p) k)) (y := ((pY D p) k)) (z := x) (t := y)) lk_RX3_52 (by decide) rfl rfl Lh10.ob ⟨_, rfl, rfl⟩ (Nat.le_of_ble_eq_true rfl) eX3_reasonOfBend_77 (fun h27 e26 => ?_)
        obtain ⟨Lh27, Fh27⟩ := e26
        have k28 := (Fh27.2 b (by omega)).trans k11
        have k29 := k12.kept Fh27 (by omega) (by omega)
        have k30 := (Fh27.2 (b + 1) (by omega)).trans k13
        have k31 := (Fh27.2 (b + 2) (by omega)).trans k14
        have k32 := (Fh27.2 (b + 3) (by omega)).trans k15
        have k33 := (Fh27.2 (b + 4) (by omega)).trans k16
        have k34 := (Fh27.2 (b + 5) (by omega)).trans k17
        have k35 := (Fh27.2 j (by omega)).trans k18
        have k36 := (Fh27.2 (b + 6 + 3 * (Int.toNat p)) (by omega)).trans k19
        have k37 := k20.kept Fh27 (by omega)
        refine q_blk (lv2 := [(0, vr j), (1, vi p), (2, vi k), (3, vi x), (4, vi y), (5, vr (b + 6 + 3 * (Int.toNat p)))]) (st2 := [vr j]) kX3_reasonOfBend_80 rfl ?_
        refine q_Vi (av := []) (st := []) (c_X3_reasonOfLine k35 k29 hD Lh27 (hV3 k (by omega) (by omega)).1 (hV3 k (by omega) (by omega)).2 h_x h_y (by omega) (by omega) (by omega) (by omega) hE hab) lk_RX3_56 (by decide) rfl rfl (JD.ob k35) ⟨_, rfl, rfl⟩ (Nat.le_of_ble_eq_true rfl) eX3_reasonOfBend_81 (fun z38 e39 => ?_)
        have e39r := gm_lr_r e39
        refine q_blk (lv2 := [(0, vr j), (1, vi p), (2, vi k), (3, vi x), (4, vi y), (5, vr (b + 6 + 3 * (Int.toNat p))), (6, vi z38)]) (st2 := [vi z38]) kX3_reasonOfBend_84 rfl ?_
        refine AQ.if_eq (tgt := 94) eX3_reasonOfBend_88 (by decide) (by first | assumption | exact ⟨by omega, by omega⟩) (fun br40 => ?_) (fun br40 => ?_)
        · skip
          refine q_blk (lv2 := [(0, vr j), (1, vi p), (2, vi k), (3, vi x), (4, vi y), (5, vr (b + 6 + 3 * (Int.toNat p))), (6, vi z38)]) (st2 := [vi k, vr (b + 6 + 3 * (Int.toNat p))]) kX3_reasonOfBend_94 rfl ?_
          refine q_Vi (av := [vi k]) (st := []) (c_X7_placeBehind k37 (by omega) (by omega)) lk_RX3_63 (by decide) rfl rfl k37.ob ⟨_, rfl, rfl⟩ (Nat.le_of_ble_eq_true rfl) eX3_reasonOfBend_97 (fun z41 e42 => ?_)
          obtain ⟨e42, e42a, e42b⟩ := e42
          have hab2 := gm_tk_ne (k := z41) e7 p0 p1 (by omega) (by omega)
          refine q_blk (lv2 := [(0, vr j), (1, vi p), (2, vi k), (3, vi x), (4, vi y), (5, vr (b + 6 + 3 * (Int.toNat p))), (6, vi z38), (7, vi z41)]) (st2 := [vr j]) kX3_reasonOfBend_100 rfl ?_
          refine q_gr eX3_reasonOfBend_103 fl_RX3_12 (Or.inl ⟨_, rfl⟩) k35 rfl ?_
          refine q_blk (lv2 := [(0, vr j), (1, vi p), (2, vi k), (3, vi x), (4, vi y), (5, vr (b + 6 + 3 * (Int.toNat p))), (6, vi z38), (7, vi z41)]) (st2 := [vi z41, vr (b + 6 + 3 * (Int.toNat p)), vr l]) kX3_reasonOfBend_106 rfl ?_
          refine q_Vi (av := [vi z41]) (st := [vr l]) (c_X7_xAt k37 (by omega) (by omega)) lk_RX3_45 (by decide) rfl rfl k37.ob ⟨_, rfl, rfl⟩ (Nat.le_of_ble_eq_true rfl) eX3_reasonOfBend_110 (fun z43 e44 => ?_)
          subst e44
          refine q_blk (lv2 := [(0, vr j), (1, vi p), (2, vi k), (3, vi x), (4, vi y), (5, vr (b + 6 + 3 * (Int.toNat p))), (6, vi z38), (7, vi z41)]) (st2 := [vi z41, vr (b + 6 + 3 * (Int.toNat p)), vi ((pX D p) z41), vr l]) kX3_reasonOfBend_113 rfl ?_
          refine q_Vi (av := [vi z41]) (st := [vi ((pX D p) z41), vr l]) (c_X7_yAt k37 (by omega) (by omega)) lk_RX3_49 (by decide) rfl rfl k37.ob ⟨_, rfl, rfl⟩ (Nat.le_of_ble_eq_true rfl) eX3_reasonOfBend_117 (fun z45 e46 => ?_)
          subst e46
          refine q_blk (lv2 := [(0, vr j), (1, vi p), (2, vi k), (3, vi x), (4, vi y), (5, vr (b + 6 + 3 * (Int.toNat p))), (6, vi z38), (7, vi z41)]) (st2 := [vi y, vi x, vi ((pY D p) z41), vi ((pX D p) z41), vr l]) kX3_reasonOfBend_120 rfl ?_
          refine AQ.callVv (av := [vi ((pX D p) z41), vi ((pY D p) z41), vi x, vi y]) (st := []) (c_X4_draw Lh27 (x := ((pX D p) z41)) (y := ((pY D p) z41)) (z := x) (t := y)) lk_RX3_52 (by decide) rfl rfl Lh27.ob ⟨_, rfl, rfl⟩ (Nat.le_of_ble_eq_true rfl) eX3_reasonOfBend_123 (fun h49 e48 => ?_)
          obtain ⟨Lh49, Fh49⟩ := e48
          have k50 := (Fh49.2 b (by omega)).trans k28
          have k51 := k29.kept Fh49 (by omega) (by omega)
          have k52 := (Fh49.2 (b + 1) (by omega)).trans k30
          have k53 := (Fh49.2 (b + 2) (by omega)).trans k31
          have k54 := (Fh49.2 (b + 3) (by omega)).trans k32
          have k55 := (Fh49.2 (b + 4) (by omega)).trans k33
          have k56 := (Fh49.2 (b + 5) (by omega)).trans k34
          have k57 := (Fh49.2 j (by omega)).trans k35
          have k58 := (Fh49.2 (b + 6 + 3 * (Int.toNat p)) (by omega)).trans k36
          have k59 := k37.kept Fh49 (by omega)
          refine q_blk (lv2 := [(0, vr j), (1, vi p), (2, vi k), (3, vi x), (4, vi y), (5, vr (b + 6 + 3 * (Int.toNat p))), (6, vi z38), (7, vi z41)]) (st2 := [vr j]) kX3_reasonOfBend_126 rfl ?_
          refine q_Vi (av := []) (st := []) (c_X3_reasonOfLine k57 k51 hD Lh49 (hV3 z41 (by omega) (by omega)).1 (hV3 z41 (by omega) (by omega)).2 h_x h_y (by omega) (by omega) (by omega) (by omega) hE hab2) lk_RX3_56 (by decide) rfl rfl (JD.ob k57) ⟨_, rfl, rfl⟩ (Nat.le_of_ble_eq_true rfl) eX3_reasonOfBend_127 (fun z60 e61 => ?_)
          have e61r := gm_lr_r e61
          exact q_ri rfl eX3_reasonOfBend_130 ⟨z60, rfl, Or.inr ⟨by omega, Or.inr ⟨by omega, Or.inr ⟨e7, _, e39, Or.inr ⟨by omega, by rw [← e42]; exact e61⟩⟩⟩⟩, ⟨_, _, _, _, _, _, _, _, Lh49, by omega, by omega, by omega, by omega⟩, (((am_fr.rf.tr Fh10).tr Fh27).tr Fh49)⟩
        · skip
          refine q_blk (lv2 := [(0, vr j), (1, vi p), (2, vi k), (3, vi x), (4, vi y), (5, vr (b + 6 + 3 * (Int.toNat p))), (6, vi z38)]) (st2 := [vi z38]) kX3_reasonOfBend_91 rfl ?_
          exact q_ri rfl eX3_reasonOfBend_93 ⟨z38, rfl, Or.inr ⟨by omega, Or.inr ⟨by omega, Or.inr ⟨e7, _, e39, Or.inl ⟨by omega, rfl⟩⟩⟩⟩, ⟨_, _, _, _, _, _, _, _, Lh27, by omega, by omega, by omega, by omega⟩, ((am_fr.rf.tr Fh10).tr Fh27)⟩
    · skip
      refine q_blk (lv2 := [(0, vr j), (1, vi p), (2, vi k), (3, vi x), (4, vi y), (5, vr (b + 6 + 3 * (Int.toNat p)))]) (st2 := [vi 2]) kX3_reasonOfBend_30 rfl ?_
      exact q_ri rfl eX3_reasonOfBend_31 ⟨2, rfl, Or.inr ⟨by omega, Or.inl ⟨by omega, rfl⟩⟩, ⟨_, _, _, _, _, _, _, _, hL, by omega, by omega, by omega, by omega⟩, am_fr.rf⟩
  · skip
    refine q_blk (lv2 := [(0, vr j), (1, vi p), (2, vi k), (3, vi x), (4, vi y), (5, vr (b + 6 + 3 * (Int.toNat p)))]) (st2 := [vi 1]) kX3_reasonOfBend_18 rfl ?_
    exact q_ri rfl eX3_reasonOfBend_19 ⟨1, rfl, Or.inl ⟨by omega, rfl⟩, ⟨_, _, _, _, _, _, _, _, hL, by omega, by omega, by omega, by omega⟩, am_fr.rf⟩

set_option maxHeartbeats 1000000 in
theorem c_X3_reasonOfTakingOut {w : am_w} {h : AH} {j b l : Nat} {D cm : Int → Int} {sc : Nat} (hJ : JD h j b l) (hB : BD h b D cm sc) (hD : VD D) (hE : VE D) (hLJ : LJ h l) (hlj : l ≠ j) (hlb : l < b ∨ b + 24 ≤ l) {p : Int} (p0 : 0 ≤ p) (p1 : p < D 3) {k : Int} (k0 : 0 ≤ k) (k1 : k < pN D p)  : AE w m_X3_reasonOfTakingOut 6 [vr j, vi p, vi k] h (am_int (fun z h1 => gm_rT D p k z ∧ LJ h1 l ∧ am_fr h h1 l (l + 1))) := by
  refine AE.of wf_X3_reasonOfTakingOut (Nat.le_of_ble_eq_true rfl) (am_ok_i) ?_
  obtain ⟨⟨sx, sy, sv, ⟨b0, b1, b2, b3, b4, b5⟩, hst⟩, hall, hsh⟩ := id hB
  have d0 := hD.1
  have d1 := hD.2.1
  have d2 := hD.2.2.1
  have d3 := hD.2.2.2.1
  have hJ := id hJ
  unfold JD at hJ
  obtain ⟨ax, ay, bx, by', lp, lc, l1, l2, hL, q1, q2, q3, q4⟩ := hLJ
  have vp := hD.2.2.2.2.2 p p0 p1
  have vn := vp.2.1
  refine q_blk (lv2 := [(0, vr j), (1, vi p), (2, vi k)]) (st2 := [vr j]) kX3_reasonOfTakingOut_0 rfl ?_
  refine q_gr eX3_reasonOfTakingOut_1 fl_RX3_18 (Or.inl ⟨_, rfl⟩) hJ rfl ?_
  refine q_blk (lv2 := [(0, vr j), (1, vi p), (2, vi k)]) (st2 := [vi p, vr b]) kX3_reasonOfTakingOut_4 rfl ?_
  refine q_Vr (av := [vi p]) (st := []) (c_X0_shapeAt hB hD (by omega) (by omega)) lk_RX3_22 (by decide) rfl rfl hB.ob ⟨_, rfl, rfl⟩ (Nat.le_of_ble_eq_true rfl) eX3_reasonOfTakingOut_5 (fun z1 e2 => ?_)
  subst e2
  have hS3 := hB.sh (p := p) (by omega) (by omega)
  obtain ⟨fx3, fy3, hP3, hn3, hc3, hx3⟩ := id hS3
  have hV3 := hD.vc (p := p) (by omega) (by omega)
  refine q_blk (lv2 := [(0, vr j), (1, vi p), (2, vi k), (3, vr (b + 6 + 3 * (Int.toNat p)))]) (st2 := [vr (b + 6 + 3 * (Int.toNat p))]) kX3_reasonOfTakingOut_8 rfl ?_
  refine q_gi eX3_reasonOfTakingOut_10 fl_RX3_28 (Or.inr rfl) hP3.1 (z := (pC D p)) rfl ?_
  refine AQ.if_ne (tgt := 18) eX3_reasonOfTakingOut_13 (by decide) (by first | assumption | exact ⟨by omega, by omega⟩) (fun br4 => ?_) (fun br4 => ?_)
  · skip
    refine q_blk (lv2 := [(0, vr j), (1, vi p), (2, vi k), (3, vr (b + 6 + 3 * (Int.toNat p)))]) (st2 := [vr (b + 6 + 3 * (Int.toNat p))]) kX3_reasonOfTakingOut_18 rfl ?_
    refine q_gi eX3_reasonOfTakingOut_19 fl_RX3_34 (Or.inl rfl) hP3.1 (z := (pN D p)) rfl ?_
    refine q_blk (lv2 := [(0, vr j), (1, vi p), (2, vi k), (3, vr (b + 6 + 3 * (Int.toNat p)))]) (st2 := [vi 3, vi (pN D p)]) kX3_reasonOfTakingOut_22 rfl ?_
    refine AQ.ic_gt (tgt := 29) eX3_reasonOfTakingOut_23 (by decide) (by first | assumption | exact ⟨by omega, by omega⟩) ⟨by decide, by decide⟩ (fun br5 => ?_) (fun br5 => ?_)
    · skip
      refine q_blk (lv2 := [(0, vr j), (1, vi p), (2, vi k), (3, vr (b + 6 + 3 * (Int.toNat p)))]) (st2 := [vi k, vr (b + 6 + 3 * (Int.toNat p))]) kX3_reasonOfTakingOut_29 rfl ?_
      refine q_Vi (av := [vi k]) (st := []) (c_X7_placeBefore hS3 (by omega) (by omega)) lk_RX3_66 (by decide) rfl rfl hS3.ob ⟨_, rfl, rfl⟩ (Nat.le_of_ble_eq_true rfl) eX3_reasonOfTakingOut_31 (fun z6 e7 => ?_)
      obtain ⟨e7, e7a, e7b⟩ := e7
      refine q_blk (lv2 := [(0, vr j), (1, vi p), (2, vi k), (3, vr (b + 6 + 3 * (Int.toNat p))), (4, vi z6)]) (st2 := [vi k, vr (b + 6 + 3 * (Int.toNat p))]) kX3_reasonOfTakingOut_34 rfl ?_
      refine q_Vi (av := [vi k]) (st := []) (c_X7_placeBehind hS3 (by omega) (by omega)) lk_RX3_63 (by decide) rfl rfl hS3.ob ⟨_, rfl, rfl⟩ (Nat.le_of_ble_eq_true rfl) eX3_reasonOfTakingOut_38 (fun z8 e9 => ?_)
      obtain ⟨e9, e9a, e9b⟩ := e9
      have hab := hE.ne p0 p1 (k := z6) (m := z8) (by omega) (by omega) (by omega) (by omega) (by rw [e9, e7]; unfold gm_nx gm_pv; split <;> split <;> omega)
      refine q_blk (lv2 := [(0, vr j), (1, vi p), (2, vi k), (3, vr (b + 6 + 3 * (Int.toNat p))), (4, vi z6), (5, vi z8)]) (st2 := [vr j]) kX3_reasonOfTakingOut_41 rfl ?_
      refine q_gr eX3_reasonOfTakingOut_44 fl_RX3_12 (Or.inl ⟨_, rfl⟩) hJ rfl ?_
      refine q_blk (lv2 := [(0, vr j), (1, vi p), (2, vi k), (3, vr (b + 6 + 3 * (Int.toNat p))), (4, vi z6), (5, vi z8)]) (st2 := [vi k, vi z6, vi k, vi p, vr l]) kX3_reasonOfTakingOut_47 rfl ?_
      refine AQ.callVv (av := [vi p, vi k, vi z6, vi k]) (st := []) (c_X4_lose hL (x := p) (y := k) (z := z6) (t := k)) lk_RX3_60 (by decide) rfl rfl hL.ob ⟨_, rfl, rfl⟩ (Nat.le_of_ble_eq_true rfl) eX3_reasonOfTakingOut_52 (fun h12 e11 => ?_)
      obtain ⟨Lh12, Fh12⟩ := e11
      have k13 := (Fh12.2 b (by omega)).trans b0
      have k14 := hB.kept Fh12 (by omega) (by omega)
      have k15 := (Fh12.2 (b + 1) (by omega)).trans b1
      have k16 := (Fh12.2 (b + 2) (by omega)).trans b2
      have k17 := (Fh12.2 (b + 3) (by omega)).trans b3
      have k18 := (Fh12.2 (b + 4) (by omega)).trans b4
      have k19 := (Fh12.2 (b + 5) (by omega)).trans b5
      have k20 := (Fh12.2 j (by omega)).trans hJ
      have k21 := (Fh12.2 (b + 6 + 3 * (Int.toNat p)) (by omega)).trans hP3.1
      have k22 := hS3.kept Fh12 (by omega)
      refine q_blk (lv2 := [(0, vr j), (1, vi p), (2, vi k), (3, vr (b + 6 + 3 * (Int.toNat p))), (4, vi z6), (5, vi z8)]) (st2 := [vr j]) kX3_reasonOfTakingOut_55 rfl ?_
      refine q_gr eX3_reasonOfTakingOut_56 fl_RX3_12 (Or.inl ⟨_, rfl⟩) k20 rfl ?_
      refine q_blk (lv2 := [(0, vr j), (1, vi p), (2, vi k), (3, vr (b + 6 + 3 * (Int.toNat p))), (4, vi z6), (5, vi z8)]) (st2 := [vi z6, vr (b + 6 + 3 * (Int.toNat p)), vr l]) kX3_reasonOfTakingOut_59 rfl ?_
      refine q_Vi (av := [vi z6]) (st := [vr l]) (c_X7_xAt k22 (by omega) (by omega)) lk_RX3_45 (by decide) rfl rfl k22.ob ⟨_, rfl, rfl⟩ (Nat.le_of_ble_eq_true rfl) eX3_reasonOfTakingOut_62 (fun z23 e24 => ?_)
      subst e24
      refine q_blk (lv2 := [(0, vr j), (1, vi p), (2, vi k), (3, vr (b + 6 + 3 * (Int.toNat p))), (4, vi z6), (5, vi z8)]) (st2 := [vi z6, vr (b + 6 + 3 * (Int.toNat p)), vi ((pX D p) z6), vr l]) kX3_reasonOfTakingOut_65 rfl ?_
      refine q_Vi (av := [vi z6]) (st := [vi ((pX D p) z6), vr l]) (c_X7_yAt k22 (by omega) (by omega)) lk_RX3_49 (by decide) rfl rfl k22.ob ⟨_, rfl, rfl⟩ (Nat.le_of_ble_eq_true rfl) eX3_reasonOfTakingOut_68 (fun z25 e26 => ?_)
      subst e26
      refine q_blk (lv2 := [(0, vr j), (1, vi p), (2, vi k), (3, vr (b + 6 + 3 * (Int.toNat p))), (4, vi z6), (5, vi z8)]) (st2 := [vi z8, vr (b + 6 + 3 * (Int.toNat p)), vi ((pY D p) z6), vi ((pX D p) z6), vr l]) kX3_reasonOfTakingOut_71 rfl ?_
      refine q_Vi (av := [vi z8]) (st := [vi ((pY D p) z6), vi ((pX D p) z6), vr l]) (c_X7_xAt k22 (by omega) (by omega)) lk_RX3_45 (by decide) rfl rfl k22.ob ⟨_, rfl, rfl⟩ (Nat.le_of_ble_eq_true rfl) eX3_reasonOfTakingOut_74 (fun z27 e28 => ?_)
      subst e28
      refine q_blk (lv2 := [(0, vr j), (1, vi p), (2, vi k), (3, vr (b + 6 + 3 * (Int.toNat p))), (4, vi z6), (5, vi z8)]) (st2 := [vi z8, vr (b + 6 + 3 * (Int.toNat p)), vi ((pX D p) z8), vi ((pY D p) z6), vi ((pX D p) z6), vr l]) kX3_reasonOfTakingOut_77 rfl ?_
      refine q_Vi (av := [vi z8]) (st := [vi ((pX D p) z8), vi ((pY D p) z6), vi ((pX D p) z6), vr l]) (c_X7_yAt k22 (by omega) (by omega)) lk_RX3_49 (by decide) rfl rfl k22.ob ⟨_, rfl, rfl⟩ (Nat.le_of_ble_eq_true rfl) eX3_reasonOfTakingOut_80 (fun z29 e30 => ?_)
      subst e30
      refine AQ.callVv (av := [vi ((pX D p) z6), vi ((pY D p) z6), vi ((pX D p) z8), vi ((pY D p) z8)]) (st := []) (c_X4_draw Lh12 (x := ((pX D p) z6)) (y := ((pY D p) z6)) (z := ((pX D p) z8)) (t := ((pY D p) z8))) lk_RX3_52 (by decide) rfl rfl Lh12.ob ⟨_, rfl, rfl⟩ (Nat.le_of_ble_eq_true rfl) eX3_reasonOfTakingOut_83 (fun h33 e32 => ?_)
      obtain ⟨Lh33, Fh33⟩ := e32
      have k34 := (Fh33.2 b (by omega)).trans k13
      have k35 := k14.kept Fh33 (by omega) (by omega)
      have k36 := (Fh33.2 (b + 1) (by omega)).trans k15
      have k37 := (Fh33.2 (b + 2) (by omega)).trans k16
      have k38 := (Fh33.2 (b + 3) (by omega)).trans k17
      have k39 := (Fh33.2 (b + 4) (by omega)).trans k18
      have k40 := (Fh33.2 (b + 5) (by omega)).trans k19
      have k41 := (Fh33.2 j (by omega)).trans k20
      have k42 := (Fh33.2 (b + 6 + 3 * (Int.toNat p)) (by omega)).trans k21
      have k43 := k22.kept Fh33 (by omega)
      refine q_blk (lv2 := [(0, vr j), (1, vi p), (2, vi k), (3, vr (b + 6 + 3 * (Int.toNat p))), (4, vi z6), (5, vi z8)]) (st2 := [vr j]) kX3_reasonOfTakingOut_86 rfl ?_
      refine q_Vi (av := []) (st := []) (c_X3_reasonOfLine k41 k35 hD Lh33 (hV3 z6 (by omega) (by omega)).1 (hV3 z6 (by omega) (by omega)).2 (hV3 z8 (by omega) (by omega)).1 (hV3 z8 (by omega) (by omega)).2 (by omega) (by omega) (by omega) (by omega) hE hab) lk_RX3_56 (by decide) rfl rfl (JD.ob k41) ⟨_, rfl, rfl⟩ (Nat.le_of_ble_eq_true rfl) eX3_reasonOfTakingOut_87 (fun z44 e45 => ?_)
      have e45r := gm_lr_r e45
      exact q_ri rfl eX3_reasonOfTakingOut_90 ⟨z44, rfl, Or.inr ⟨by omega, Or.inr ⟨by omega, by rw [← e9, ← e7]; exact e45⟩⟩, ⟨_, _, _, _, _, _, _, _, Lh33, by omega, by omega, by omega, by omega⟩, ((am_fr.rf.tr Fh12).tr Fh33)⟩
    · skip
      refine q_blk (lv2 := [(0, vr j), (1, vi p), (2, vi k), (3, vr (b + 6 + 3 * (Int.toNat p)))]) (st2 := [vi 6]) kX3_reasonOfTakingOut_26 rfl ?_
      exact q_ri rfl eX3_reasonOfTakingOut_28 ⟨6, rfl, Or.inr ⟨by omega, Or.inl ⟨by omega, rfl⟩⟩, ⟨_, _, _, _, _, _, _, _, hL, by omega, by omega, by omega, by omega⟩, am_fr.rf⟩
  · skip
    refine q_blk (lv2 := [(0, vr j), (1, vi p), (2, vi k), (3, vr (b + 6 + 3 * (Int.toNat p)))]) (st2 := [vi 1]) kX3_reasonOfTakingOut_16 rfl ?_
    exact q_ri rfl eX3_reasonOfTakingOut_17 ⟨1, rfl, Or.inl ⟨by omega, rfl⟩, ⟨_, _, _, _, _, _, _, _, hL, by omega, by omega, by omega, by omega⟩, am_fr.rf⟩
