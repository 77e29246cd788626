/-! CornerClaims$Judge. -/
/-- corners of one polygon are distinct -/
def VE (D : Int → Int) : Prop := ∀ p k m, 0 ≤ p → p < D 3 → 0 ≤ k → k < m → m < pN D p → ¬ (pX D p k = pX D p m ∧ pY D p k = pY D p m)
theorem VE.ne {D : Int → Int} (hE : VE D) {p k m : Int} (p0 : 0 ≤ p) (p1 : p < D 3) (k0 : 0 ≤ k) (k1 : k < pN D p) (m0 : 0 ≤ m) (m1 : m < pN D p) (n : k ≠ m) : pX D p m ≠ pX D p k ∨ pY D p m ≠ pY D p k := by
  rcases Int.lt_or_gt_of_ne n with q | q
  · have := hE p k m p0 p1 k0 q m1; omega
  · have := hE p m k p0 p1 m0 q k1; omega
theorem gm_side_ne {D : Int → Int} (hD : VD D) (hE : VE D) {p k : Int} (p0 : 0 ≤ p) (p1 : p < D 3) (k0 : 0 ≤ k) (k1 : k < gm_ns (pN D p) (pC D p)) : pX D p (gm_nx (pN D p) k) ≠ pX D p k ∨ pY D p (gm_nx (pN D p) k) ≠ pY D p k := by
  have h := hD.2.2.2.2.2 p p0 p1
  have h2 := h.2.1
  have h3 := h.2.2.1
  unfold gm_ns at k1
  have k2 : k < pN D p := by split at k1 <;> omega
  have r := gm_nx_r k0 k2
  refine hE.ne p0 p1 k0 k2 r.1 r.2 ?_
  unfold gm_nx
  split at k1 <;> split <;> omega
def gm_bs (D : Int → Int) (ax ay bx by' : Int) : Prop := ∃ k, 0 ≤ k ∧ k < D 2 ∧ gm_on ax ay bx by' (sX D k) (sY D k)
def gm_bk (D : Int → Int) (lp lc ax ay bx by' p : Int) : Prop := ∃ k, 0 ≤ k ∧ k < pN D p ∧ ¬ (p = lp ∧ k = lc) ∧ gm_wi ax ay bx by' (pX D p k) (pY D p k)
def gm_bc (D : Int → Int) (lp lc ax ay bx by' : Int) : Prop := ∃ p, 0 ≤ p ∧ p < D 3 ∧ gm_bk D lp lc ax ay bx by' p
def gm_ck (D : Int → Int) (lp l1 l2 ax ay bx by' p : Int) : Prop := ∃ k, 0 ≤ k ∧ k < gm_ns (pN D p) (pC D p) ∧ ¬ (p = lp ∧ (k = l1 ∨ k = l2)) ∧ gm_mt ax ay bx by' (pX D p k) (pY D p k) (pX D p (gm_nx (pN D p) k)) (pY D p (gm_nx (pN D p) k))
def gm_cr (D : Int → Int) (lp l1 l2 ax ay bx by' : Int) : Prop := ∃ p, 0 ≤ p ∧ p < D 3 ∧ gm_ck D lp l1 l2 ax ay bx by' p
/-- why a line may not be drawn; 0 if it may -/
def gm_lr (D : Int → Int) (lp lc l1 l2 ax ay bx by' z : Int) : Prop := ((gm_bs D ax ay bx by' ∨ gm_bc D lp lc ax ay bx by') ∧ z = 4) ∨ (¬ (gm_bs D ax ay bx by' ∨ gm_bc D lp lc ax ay bx by') ∧ ((gm_cr D lp l1 l2 ax ay bx by' ∧ z = 5) ∨ (¬ gm_cr D lp l1 l2 ax ay bx by' ∧ z = 0)))
def JD (h : AH) (j b l : Nat) : Prop := h.1 j = some (2, 2, am_L [], am_G [some b, some l])
theorem JD.ob {h : AH} {j b l : Nat} (hJ : JD h j b l) : am_ob h j 2 := ⟨_, _, _, hJ⟩

set_option maxHeartbeats 1000000 in
theorem c_X3_isStoneOnLine {w : am_w} {h : AH} {j b l : Nat} {D cm : Int → Int} {sc : Nat} {ax ay bx by' lp lc l1 l2 : Int} (hJ : JD h j b l) (hB : BD h b D cm sc) (hD : VD D) (hL : LN h l ax ay bx by' lp lc l1 l2) (h_ax : am_c ax) (h_ay : am_c ay) (h_bx : am_c bx) (h_by : am_c by')  : AE w m_X3_isStoneOnLine 3 [vr j] h (am_intp h (fun z => am_b z (gm_bs D ax ay bx by'))) := by
  refine AE.of wf_X3_isStoneOnLine (Nat.le_of_ble_eq_true rfl) (am_ok_zp (fun z q => am_bz q)) ?_
  obtain ⟨⟨sx, sy, sv, ⟨b0, b1, b2, b3, b4, b5⟩, hst⟩, hall, hsh⟩ := id hB
  have d0 := hD.1
  have d1 := hD.2.1
  have d2 := hD.2.2.1
  have d3 := hD.2.2.2.1
  have hJ := id hJ
  unfold JD at hJ
  refine q_blk (lv2 := [(0, vr j), (1, vi 0)]) (st2 := []) kX3_isStoneOnLine_0 rfl ?_
  refine am_lp1 (I := fun (i : Int) => (0 ≤ i ∧ i ≤ D 2) ∧ ∀ k, 0 ≤ k → k < i → ¬ gm_on ax ay bx by' (sX D k) (sY D k)) (μ := fun (i : Int) => (D 2 - i).toNat) (G := fun (i : Int) => AQ w m_X3_isStoneOnLine 3 2 [(0, vr j), (1, vi i)] [] h (am_intp h (fun z => am_b z (gm_bs D ax ay bx by')))) ?_ 0 (⟨⟨by omega, by omega⟩, fun k h0 h1 => by omega⟩)
  intro i hI2 ih1
  obtain ⟨⟨i0, i1⟩, hno⟩ := hI2
  refine q_blk (lv2 := [(0, vr j), (1, vi i)]) (st2 := [vr j, vi i]) kX3_isStoneOnLine_2 rfl ?_
  refine q_gr eX3_isStoneOnLine_4 fl_RX3_18 (Or.inl ⟨_, rfl⟩) hJ rfl ?_
  refine q_gi eX3_isStoneOnLine_7 fl_RX3_79 (Or.inl rfl) b0 (z := (D 2)) rfl ?_
  refine AQ.ic_ge (tgt := 47) eX3_isStoneOnLine_10 (by decide) (by first | assumption | exact ⟨by omega, by omega⟩) (by first | assumption | exact ⟨by omega, by omega⟩) (fun br3 => ?_) (fun br3 => ?_)
  · skip
    refine q_blk (lv2 := [(0, vr j), (1, vi i)]) (st2 := [vi 0]) kX3_isStoneOnLine_47 rfl ?_
    exact q_rz rfl eX3_isStoneOnLine_48 (by decide) ⟨0, rfl, Or.inr ⟨rfl, fun ⟨k, k0, k1, k2⟩ => hno k k0 (by omega) k2⟩, rfl⟩
  · skip
    have hv9 := hD.2.2.2.2.1 i i0 (by omega)
    have hx9 : am_c (sX D i) := by unfold am_c; omega
    have hy9 : am_c (sY D i) := by unfold am_c; omega
    refine q_blk (lv2 := [(0, vr j), (1, vi i)]) (st2 := [vr j]) kX3_isStoneOnLine_13 rfl ?_
    refine q_gr eX3_isStoneOnLine_14 fl_RX3_12 (Or.inl ⟨_, rfl⟩) hJ rfl ?_
    refine q_blk (lv2 := [(0, vr j), (1, vi i)]) (st2 := [vr j, vr l]) kX3_isStoneOnLine_17 rfl ?_
    refine q_gr eX3_isStoneOnLine_18 fl_RX3_18 (Or.inl ⟨_, rfl⟩) hJ rfl ?_
    refine q_blk (lv2 := [(0, vr j), (1, vi i)]) (st2 := [vi i, vr b, vr l]) kX3_isStoneOnLine_21 rfl ?_
    refine q_Vi (av := [vi i]) (st := [vr l]) (c_X0_stoneX hB hD (by omega) (by omega)) lk_RX3_82 (by decide) rfl rfl hB.ob ⟨_, rfl, rfl⟩ (Nat.le_of_ble_eq_true rfl) eX3_isStoneOnLine_22 (fun z4 e5 => ?_)
    subst e5
    refine q_blk (lv2 := [(0, vr j), (1, vi i)]) (st2 := [vr j, vi (sX D i), vr l]) kX3_isStoneOnLine_25 rfl ?_
    refine q_gr eX3_isStoneOnLine_26 fl_RX3_18 (Or.inl ⟨_, rfl⟩) hJ rfl ?_
    refine q_blk (lv2 := [(0, vr j), (1, vi i)]) (st2 := [vi i, vr b, vi (sX D i), vr l]) kX3_isStoneOnLine_29 rfl ?_
    refine q_Vi (av := [vi i]) (st := [vi (sX D i), vr l]) (c_X0_stoneY hB hD (by omega) (by omega)) lk_RX3_85 (by decide) rfl rfl hB.ob ⟨_, rfl, rfl⟩ (Nat.le_of_ble_eq_true rfl) eX3_isStoneOnLine_30 (fun z6 e7 => ?_)
    subst e7
    refine q_Vi (av := [vi (sX D i), vi (sY D i)]) (st := []) (c_X4_holds hL h_ax h_ay h_bx h_by hx9 hy9) lk_RX3_88 (by decide) rfl rfl hL.ob ⟨_, rfl, rfl⟩ (Nat.le_of_ble_eq_true rfl) eX3_isStoneOnLine_33 (fun z8 e9 => ?_)
    rcases e9 with ⟨rfl, e9⟩ | ⟨rfl, e9⟩
    · skip
      refine AQ.of (AS.if_eq_f eX3_isStoneOnLine_36 ⟨by decide, by decide⟩ (by decide) (by decide)) ?_
      refine q_blk (lv2 := [(0, vr j), (1, vi i)]) (st2 := [vi 1]) kX3_isStoneOnLine_39 rfl ?_
      exact q_rz rfl eX3_isStoneOnLine_40 (by decide) ⟨1, rfl, Or.inl ⟨rfl, i, i0, by omega, e9⟩, rfl⟩
    · skip
      refine AQ.of (AS.if_eq_t (tgt := 41) eX3_isStoneOnLine_36 (by decide) ⟨by decide, by decide⟩ (by decide)) ?_
      refine q_blk (lv2 := [(0, vr j), (1, vi (i + 1))]) (st2 := []) kX3_isStoneOnLine_41 rfl ?_
      refine q_goto (tgt := 2) eX3_isStoneOnLine_44 (by decide) ?_
      exact ih1 (i + 1) (⟨⟨by omega, by omega⟩, fun k k0 k1 => by
      by_cases e : k = i
      · subst e; exact e9
      · exact hno k k0 (by omega)⟩) (by omega)

set_option maxHeartbeats 1000000 in
theorem c_X3_isCornerOnLine {w : am_w} {h : AH} {j b l : Nat} {D cm : Int → Int} {sc : Nat} {ax ay bx by' lp lc l1 l2 : Int} (hJ : JD h j b l) (hB : BD h b D cm sc) (hD : VD D) (hL : LN h l ax ay bx by' lp lc l1 l2) (h_ax : am_c ax) (h_ay : am_c ay) (h_bx : am_c bx) (h_by : am_c by') (q1 : -1 ≤ lp ∧ lp ≤ 100) (q2 : -1 ≤ lc ∧ lc ≤ 100) (q3 : -1 ≤ l1 ∧ l1 ≤ 100) (q4 : -1 ≤ l2 ∧ l2 ≤ 100)  : AE w m_X3_isCornerOnLine 3 [vr j] h (am_intp h (fun z => am_b z (gm_bc D lp lc ax ay bx by'))) := by
  refine AE.of wf_X3_isCornerOnLine (Nat.le_of_ble_eq_true rfl) (am_ok_zp (fun z q => am_bz q)) ?_
  obtain ⟨⟨sx, sy, sv, ⟨b0, b1, b2, b3, b4, b5⟩, hst⟩, hall, hsh⟩ := id hB
  have d0 := hD.1
  have d1 := hD.2.1
  have d2 := hD.2.2.1
  have d3 := hD.2.2.2.1
  have hJ := id hJ
  unfold JD at hJ
  refine q_blk (lv2 := [(0, vr j), (1, vi 0)]) (st2 := []) kX3_isCornerOnLine_0 rfl ?_
  refine am_lp1 (I := fun (p : Int) => (0 ≤ p ∧ p ≤ D 3) ∧ ∀ k, 0 ≤ k → k < p → ¬ gm_bk D lp lc ax ay bx by' k) (μ := fun (p : Int) => (D 3 - p).toNat) (G := fun (p : Int) => AQ w m_X3_isCornerOnLine 3 2 [(0, vr j), (1, vi p)] [] h (am_intp h (fun z => am_b z (gm_bc D lp lc ax ay bx by')))) ?_ 0 (⟨⟨by omega, by omega⟩, fun k h0 h1 => by omega⟩)
  intro p hI2 ih1
  obtain ⟨⟨p0, p1⟩, hno⟩ := hI2
  refine q_blk (lv2 := [(0, vr j), (1, vi p)]) (st2 := [vr j, vi p]) kX3_isCornerOnLine_2 rfl ?_
  refine q_gr eX3_isCornerOnLine_4 fl_RX3_18 (Or.inl ⟨_, rfl⟩) hJ rfl ?_
  refine q_gi eX3_isCornerOnLine_7 fl_RX3_91 (Or.inl rfl) b0 (z := (D 3)) rfl ?_
  refine AQ.ic_ge (tgt := 100) eX3_isCornerOnLine_10 (by decide) (by first | assumption | exact ⟨by omega, by omega⟩) (by first | assumption | exact ⟨by omega, by omega⟩) (fun br3 => ?_) (fun br3 => ?_)
  · skip
    refine q_blk (lv2 := [(0, vr j), (1, vi p)]) (st2 := [vi 0]) kX3_isCornerOnLine_100 rfl ?_
    exact q_rz rfl eX3_isCornerOnLine_101 (by decide) ⟨0, rfl, Or.inr ⟨rfl, fun ⟨k, k0, k1, k2⟩ => hno k k0 (by omega) k2⟩, rfl⟩
  · skip
    refine q_blk (lv2 := [(0, vr j), (1, vi p)]) (st2 := [vr j]) kX3_isCornerOnLine_13 rfl ?_
    refine q_gr eX3_isCornerOnLine_14 fl_RX3_18 (Or.inl ⟨_, rfl⟩) hJ rfl ?_
    refine q_blk (lv2 := [(0, vr j), (1, vi p)]) (st2 := [vi p, vr b]) kX3_isCornerOnLine_17 rfl ?_
    refine q_Vr (av := [vi p]) (st := []) (c_X0_shapeAt hB hD (by omega) (by omega)) lk_RX3_22 (by decide) rfl rfl hB.ob ⟨_, rfl, rfl⟩ (Nat.le_of_ble_eq_true rfl) eX3_isCornerOnLine_18 (fun z4 e5 => ?_)
    subst e5
    have hS6 := hB.sh (p := p) (by omega) (by omega)
    obtain ⟨fx6, fy6, hP6, hn6, hc6, hx6⟩ := id hS6
    have hV6 := hD.vc (p := p) (by omega) (by omega)
    refine q_blk (lv2 := [(0, vr j), (1, vi p), (2, vr (b + 6 + 3 * (Int.toNat p))), (3, vi 0)]) (st2 := []) kX3_isCornerOnLine_21 rfl ?_
    refine am_lp1 (I := fun (m : Int) => (0 ≤ m ∧ m ≤ pN D p) ∧ ∀ k, 0 ≤ k → k < m → ¬ (¬ (p = lp ∧ k = lc) ∧ gm_wi ax ay bx by' (pX D p k) (pY D p k))) (μ := fun (m : Int) => (pN D p - m).toNat) (G := fun (m : Int) => AQ w m_X3_isCornerOnLine 3 24 [(0, vr j), (1, vi p), (2, vr (b + 6 + 3 * (Int.toNat p))), (3, vi m)] [] h (am_intp h (fun z => am_b z (gm_bc D lp lc ax ay bx by')))) ?_ 0 (⟨⟨by omega, by omega⟩, fun k h0 h1 => by omega⟩)
    intro m hI8 ih7
    obtain ⟨⟨m0, m1⟩, hnk⟩ := hI8
    refine q_blk (lv2 := [(0, vr j), (1, vi p), (2, vr (b + 6 + 3 * (Int.toNat p))), (3, vi m)]) (st2 := [vr (b + 6 + 3 * (Int.toNat p)), vi m]) kX3_isCornerOnLine_24 rfl ?_
    refine q_gi eX3_isCornerOnLine_26 fl_RX3_34 (Or.inl rfl) hP6.1 (z := (pN D p)) rfl ?_
    refine AQ.ic_ge (tgt := 94) eX3_isCornerOnLine_29 (by decide) (by first | assumption | exact ⟨by omega, by omega⟩) (by first | assumption | exact ⟨by omega, by omega⟩) (fun br9 => ?_) (fun br9 => ?_)
    · skip
      refine q_blk (lv2 := [(0, vr j), (1, vi (p + 1)), (2, vr (b + 6 + 3 * (Int.toNat p))), (3, vi m)]) (st2 := []) kX3_isCornerOnLine_94 rfl ?_
      refine q_goto (tgt := 2) eX3_isCornerOnLine_97 (by decide) ?_
      refine q_sub (lv2 := [(0, vr j), (1, vi (p + 1))]) [0, 1] rfl ?_
      exact ih1 (p + 1) (⟨⟨by omega, by omega⟩, fun k k0 k1 => by
        by_cases e : k = p
        · subst e; exact fun ⟨t, t0, t1, t2⟩ => hnk t t0 (by omega) t2
        · exact hno k k0 (by omega)⟩) (by omega)
    · skip
      refine q_blk (lv2 := [(0, vr j), (1, vi p), (2, vr (b + 6 + 3 * (Int.toNat p))), (3, vi m)]) (st2 := [vi m, vr (b + 6 + 3 * (Int.toNat p))]) kX3_isCornerOnLine_32 rfl ?_
      refine q_Vi (av := [vi m]) (st := []) (c_X7_xAt hS6 (by omega) (by omega)) lk_RX3_45 (by decide) rfl rfl hS6.ob ⟨_, rfl, rfl⟩ (Nat.le_of_ble_eq_true rfl) eX3_isCornerOnLine_34 (fun z10 e11 => ?_)
      subst e11
      refine q_blk (lv2 := [(0, vr j), (1, vi p), (2, vr (b + 6 + 3 * (Int.toNat p))), (3, vi m), (4, vi ((pX D p) m))]) (st2 := [vi m, vr (b + 6 + 3 * (Int.toNat p))]) kX3_isCornerOnLine_37 rfl ?_
      refine q_Vi (av := [vi m]) (st := []) (c_X7_yAt hS6 (by omega) (by omega)) lk_RX3_49 (by decide) rfl rfl hS6.ob ⟨_, rfl, rfl⟩ (Nat.le_of_ble_eq_true rfl) eX3_isCornerOnLine_41 (fun z12 e13 => ?_)
      subst e13
      refine q_blk (lv2 := [(0, vr j), (1, vi p), (2, vr (b + 6 + 3 * (Int.toNat p))), (3, vi m), (4, vi ((pX D p) m)), (5, vi ((pY D p) m))]) (st2 := [vr j]) kX3_isCornerOnLine_44 rfl ?_
      refine q_gr eX3_isCornerOnLine_47 fl_RX3_12 (Or.inl ⟨_, rfl⟩) hJ rfl ?_
      refine q_blk (lv2 := [(0, vr j), (1, vi p), (2, vr (b + 6 + 3 * (Int.toNat p))), (3, vi m), (4, vi ((pX D p) m)), (5, vi ((pY D p) m))]) (st2 := [vi m, vi p, vr l]) kX3_isCornerOnLine_50 rfl ?_
      refine q_Vi (av := [vi p, vi m]) (st := []) (c_X4_losesCorner hL q1 q2 q3 q4 ⟨by omega, by omega⟩ ⟨by omega, by omega⟩) lk_RX3_94 (by decide) rfl rfl hL.ob ⟨_, rfl, rfl⟩ (Nat.le_of_ble_eq_true rfl) eX3_isCornerOnLine_52 (fun z14 e15 => ?_)
      rcases e15 with ⟨rfl, e15⟩ | ⟨rfl, e15⟩
      · skip
        refine AQ.of (AS.if_ne_t (tgt := 88) eX3_isCornerOnLine_55 (by decide) ⟨by decide, by decide⟩ (by decide)) ?_
        refine q_blk (lv2 := [(0, vr j), (1, vi p), (2, vr (b + 6 + 3 * (Int.toNat p))), (3, vi (m + 1)), (4, vi ((pX D p) m)), (5, vi ((pY D p) m))]) (st2 := []) kX3_isCornerOnLine_88 rfl ?_
        refine q_goto (tgt := 24) eX3_isCornerOnLine_91 (by decide) ?_
        refine q_sub (lv2 := [(0, vr j), (1, vi p), (2, vr (b + 6 + 3 * (Int.toNat p))), (3, vi (m + 1))]) [0, 1, 2, 3] rfl ?_
        exact ih7 (m + 1) (⟨⟨by omega, by omega⟩, fun k k0 k1 ⟨q1, q2⟩ => by
          by_cases e : k = m
          · subst e; exact absurd e15 q1
          · exact hnk k k0 (by omega) ⟨q1, q2⟩⟩) (by omega)
      · skip
        refine AQ.of (AS.if_ne_f eX3_isCornerOnLine_55 ⟨by decide, by decide⟩ (by decide) (by decide)) ?_
        refine q_blk (lv2 := [(0, vr j), (1, vi p), (2, vr (b + 6 + 3 * (Int.toNat p))), (3, vi m), (4, vi ((pX D p) m)), (5, vi ((pY D p) m))]) (st2 := [vr j]) kX3_isCornerOnLine_58 rfl ?_
        refine q_gr eX3_isCornerOnLine_59 fl_RX3_12 (Or.inl ⟨_, rfl⟩) hJ rfl ?_
        refine q_blk (lv2 := [(0, vr j), (1, vi p), (2, vr (b + 6 + 3 * (Int.toNat p))), (3, vi m), (4, vi ((pX D p) m)), (5, vi ((pY D p) m))]) (st2 := [vi ((pY D p) m), vi ((pX D p) m), vr l]) kX3_isCornerOnLine_62 rfl ?_
        refine q_Vi (av := [vi ((pX D p) m), vi ((pY D p) m)]) (st := []) (c_X4_endsAt hL h_ax h_ay h_bx h_by (hV6 m (by omega) (by omega)).1 (hV6 m (by omega) (by omega)).2) lk_RX3_97 (by decide) rfl rfl hL.ob ⟨_, rfl, rfl⟩ (Nat.le_of_ble_eq_true rfl) eX3_isCornerOnLine_66 (fun z16 e17 => ?_)
        rcases e17 with ⟨rfl, e17⟩ | ⟨rfl, e17⟩
        · skip
          refine AQ.of (AS.if_ne_t (tgt := 88) eX3_isCornerOnLine_69 (by decide) ⟨by decide, by decide⟩ (by decide)) ?_
          refine q_blk (lv2 := [(0, vr j), (1, vi p), (2, vr (b + 6 + 3 * (Int.toNat p))), (3, vi (m + 1)), (4, vi ((pX D p) m)), (5, vi ((pY D p) m))]) (st2 := []) kX3_isCornerOnLine_88 rfl ?_
          refine q_goto (tgt := 24) eX3_isCornerOnLine_91 (by decide) ?_
          refine q_sub (lv2 := [(0, vr j), (1, vi p), (2, vr (b + 6 + 3 * (Int.toNat p))), (3, vi (m + 1))]) [0, 1, 2, 3] rfl ?_
          exact ih7 (m + 1) (⟨⟨by omega, by omega⟩, fun k k0 k1 ⟨q1, q2⟩ => by
          by_cases e : k = m
          · subst e; exact q2.2 e17
          · exact hnk k k0 (by omega) ⟨q1, q2⟩⟩) (by omega)
        · skip
          refine AQ.of (AS.if_ne_f eX3_isCornerOnLine_69 ⟨by decide, by decide⟩ (by decide) (by decide)) ?_
          refine q_blk (lv2 := [(0, vr j), (1, vi p), (2, vr (b + 6 + 3 * (Int.toNat p))), (3, vi m), (4, vi ((pX D p) m)), (5, vi ((pY D p) m))]) (st2 := [vr j]) kX3_isCornerOnLine_72 rfl ?_
          refine q_gr eX3_isCornerOnLine_73 fl_RX3_12 (Or.inl ⟨_, rfl⟩) hJ rfl ?_
          refine q_blk (lv2 := [(0, vr j), (1, vi p), (2, vr (b + 6 + 3 * (Int.toNat p))), (3, vi m), (4, vi ((pX D p) m)), (5, vi ((pY D p) m))]) (st2 := [vi ((pY D p) m), vi ((pX D p) m), vr l]) kX3_isCornerOnLine_76 rfl ?_
          refine q_Vi (av := [vi ((pX D p) m), vi ((pY D p) m)]) (st := []) (c_X4_holds hL h_ax h_ay h_bx h_by (hV6 m (by omega) (by omega)).1 (hV6 m (by omega) (by omega)).2) lk_RX3_88 (by decide) rfl rfl hL.ob ⟨_, rfl, rfl⟩ (Nat.le_of_ble_eq_true rfl) eX3_isCornerOnLine_80 (fun z18 e19 => ?_)
          rcases e19 with ⟨rfl, e19⟩ | ⟨rfl, e19⟩
          · skip
            refine AQ.of (AS.if_eq_f eX3_isCornerOnLine_83 ⟨by decide, by decide⟩ (by decide) (by decide)) ?_
            refine q_blk (lv2 := [(0, vr j), (1, vi p), (2, vr (b + 6 + 3 * (Int.toNat p))), (3, vi m), (4, vi ((pX D p) m)), (5, vi ((pY D p) m))]) (st2 := [vi 1]) kX3_isCornerOnLine_86 rfl ?_
            exact q_rz rfl eX3_isCornerOnLine_87 (by decide) ⟨1, rfl, Or.inl ⟨rfl, p, p0, by omega, m, m0, by omega, e15, e19, e17⟩, rfl⟩
          · skip
            refine AQ.of (AS.if_eq_t (tgt := 88) eX3_isCornerOnLine_83 (by decide) ⟨by decide, by decide⟩ (by decide)) ?_
            refine q_blk (lv2 := [(0, vr j), (1, vi p), (2, vr (b + 6 + 3 * (Int.toNat p))), (3, vi (m + 1)), (4, vi ((pX D p) m)), (5, vi ((pY D p) m))]) (st2 := []) kX3_isCornerOnLine_88 rfl ?_
            refine q_goto (tgt := 24) eX3_isCornerOnLine_91 (by decide) ?_
            refine q_sub (lv2 := [(0, vr j), (1, vi p), (2, vr (b + 6 + 3 * (Int.toNat p))), (3, vi (m + 1))]) [0, 1, 2, 3] rfl ?_
            exact ih7 (m + 1) (⟨⟨by omega, by omega⟩, fun k k0 k1 ⟨q1, q2⟩ => by
          by_cases e : k = m
          · subst e; exact e19 q2.1
          · exact hnk k k0 (by omega) ⟨q1, q2⟩⟩) (by omega)

set_option maxHeartbeats 1000000 in
theorem c_X3_isSideMet {w : am_w} {h : AH} {j b l : Nat} {D cm : Int → Int} {sc : Nat} {ax ay bx by' lp lc l1 l2 : Int} (hJ : JD h j b l) (hB : BD h b D cm sc) (hD : VD D) (hL : LN h l ax ay bx by' lp lc l1 l2) (h_ax : am_c ax) (h_ay : am_c ay) (h_bx : am_c bx) (h_by : am_c by') (q1 : -1 ≤ lp ∧ lp ≤ 100) (q2 : -1 ≤ lc ∧ lc ≤ 100) (q3 : -1 ≤ l1 ∧ l1 ≤ 100) (q4 : -1 ≤ l2 ∧ l2 ≤ 100) (hE : VE D) (hab : bx ≠ ax ∨ by' ≠ ay)  : AE w m_X3_isSideMet 4 [vr j] h (am_intp h (fun z => am_b z (gm_cr D lp l1 l2 ax ay bx by'))) := by
  refine AE.of wf_X3_isSideMet (Nat.le_of_ble_eq_true rfl) (am_ok_zp (fun z q => am_bz q)) ?_
  obtain ⟨⟨sx, sy, sv, ⟨b0, b1, b2, b3, b4, b5⟩, hst⟩, hall, hsh⟩ := id hB
  have d0 := hD.1
  have d1 := hD.2.1
  have d2 := hD.2.2.1
  have d3 := hD.2.2.2.1
  have hJ := id hJ
  unfold JD at hJ
  refine q_blk (lv2 := [(0, vr j), (1, vi 0)]) (st2 := []) kX3_isSideMet_0 rfl ?_
  refine am_lp1 (I := fun (p : Int) => (0 ≤ p ∧ p ≤ D 3) ∧ ∀ k, 0 ≤ k → k < p → ¬ gm_ck D lp l1 l2 ax ay bx by' k) (μ := fun (p : Int) => (D 3 - p).toNat) (G := fun (p : Int) => AQ w m_X3_isSideMet 4 2 [(0, vr j), (1, vi p)] [] h (am_intp h (fun z => am_b z (gm_cr D lp l1 l2 ax ay bx by')))) ?_ 0 (⟨⟨by omega, by omega⟩, fun k h0 h1 => by omega⟩)
  intro p hI2 ih1
  obtain ⟨⟨p0, p1⟩, hno⟩ := hI2
  refine q_blk (lv2 := [(0, vr j), (1, vi p)]) (st2 := [vr j, vi p]) kX3_isSideMet_2 rfl ?_
  refine q_gr eX3_isSideMet_4 fl_RX3_18 (Or.inl ⟨_, rfl⟩) hJ rfl ?_
  refine q_gi eX3_isSideMet_7 fl_RX3_91 (Or.inl rfl) b0 (z := (D 3)) rfl ?_
  refine AQ.ic_ge (tgt := 97) eX3_isSideMet_10 (by decide) (by first | assumption | exact ⟨by omega, by omega⟩) (by first | assumption | exact ⟨by omega, by omega⟩) (fun br3 => ?_) (fun br3 => ?_)
  · skip
    refine q_blk (lv2 := [(0, vr j), (1, vi p)]) (st2 := [vi 0]) kX3_isSideMet_97 rfl ?_
    exact q_rz rfl eX3_isSideMet_98 (by decide) ⟨0, rfl, Or.inr ⟨rfl, fun ⟨k, k0, k1, k2⟩ => hno k k0 (by omega) k2⟩, rfl⟩
  · skip
    refine q_blk (lv2 := [(0, vr j), (1, vi p)]) (st2 := [vr j]) kX3_isSideMet_13 rfl ?_
    refine q_gr eX3_isSideMet_14 fl_RX3_18 (Or.inl ⟨_, rfl⟩) hJ rfl ?_
    refine q_blk (lv2 := [(0, vr j), (1, vi p)]) (st2 := [vi p, vr b]) kX3_isSideMet_17 rfl ?_
    refine q_Vr (av := [vi p]) (st := []) (c_X0_shapeAt hB hD (by omega) (by omega)) lk_RX3_22 (by decide) rfl rfl hB.ob ⟨_, rfl, rfl⟩ (Nat.le_of_ble_eq_true rfl) eX3_isSideMet_18 (fun z4 e5 => ?_)
    subst e5
    have hS6 := hB.sh (p := p) (by omega) (by omega)
    obtain ⟨fx6, fy6, hP6, hn6, hc6, hx6⟩ := id hS6
    have hV6 := hD.vc (p := p) (by omega) (by omega)
    have hns : gm_ns (pN D p) (pC D p) ≤ pN D p ∧ -1 ≤ gm_ns (pN D p) (pC D p) := by have := (hD.2.2.2.2.2 p p0 (by omega)).2.1; unfold gm_ns; split <;> omega
    refine q_blk (lv2 := [(0, vr j), (1, vi p), (2, vr (b + 6 + 3 * (Int.toNat p))), (3, vi 0)]) (st2 := []) kX3_isSideMet_21 rfl ?_
    refine am_lp1 (I := fun (m : Int) => (0 ≤ m ∧ m ≤ pN D p) ∧ ∀ k, 0 ≤ k → k < m → ¬ (¬ (p = lp ∧ (k = l1 ∨ k = l2)) ∧ gm_mt ax ay bx by' (pX D p k) (pY D p k) (pX D p (gm_nx (pN D p) k)) (pY D p (gm_nx (pN D p) k)))) (μ := fun (m : Int) => (pN D p - m).toNat) (G := fun (m : Int) => AQ w m_X3_isSideMet 4 24 [(0, vr j), (1, vi p), (2, vr (b + 6 + 3 * (Int.toNat p))), (3, vi m)] [] h (am_intp h (fun z => am_b z (gm_cr D lp l1 l2 ax ay bx by')))) ?_ 0 (⟨⟨by omega, by omega⟩, fun k h0 h1 => by omega⟩)
    intro m hI8 ih7
    obtain ⟨⟨m0, m1⟩, hnk⟩ := hI8
    refine q_blk (lv2 := [(0, vr j), (1, vi p), (2, vr (b + 6 + 3 * (Int.toNat p))), (3, vi m)]) (st2 := [vr (b + 6 + 3 * (Int.toNat p)), vi m]) kX3_isSideMet_24 rfl ?_
    refine q_Vi (av := []) (st := [vi m]) (c_X7_sideCount hS6) lk_RX3_100 (by decide) rfl rfl hS6.ob ⟨_, rfl, rfl⟩ (Nat.le_of_ble_eq_true rfl) eX3_isSideMet_26 (fun z9 e10 => ?_)
    refine AQ.ic_ge (tgt := 91) eX3_isSideMet_29 (by decide) (by first | assumption | exact ⟨by omega, by omega⟩) (by first | assumption | exact ⟨by omega, by omega⟩) (fun br11 => ?_) (fun br11 => ?_)
    · skip
      refine q_blk (lv2 := [(0, vr j), (1, vi (p + 1)), (2, vr (b + 6 + 3 * (Int.toNat p))), (3, vi m)]) (st2 := []) kX3_isSideMet_91 rfl ?_
      refine q_goto (tgt := 2) eX3_isSideMet_94 (by decide) ?_
      refine q_sub (lv2 := [(0, vr j), (1, vi (p + 1))]) [0, 1] rfl ?_
      exact ih1 (p + 1) (⟨⟨by omega, by omega⟩, fun k k0 k1 => by
        by_cases e : k = p
        · subst e; exact fun ⟨t, t0, t1, t2⟩ => hnk t t0 (by omega) t2
        · exact hno k k0 (by omega)⟩) (by omega)
    · skip
      refine q_blk (lv2 := [(0, vr j), (1, vi p), (2, vr (b + 6 + 3 * (Int.toNat p))), (3, vi m)]) (st2 := [vi m, vr (b + 6 + 3 * (Int.toNat p))]) kX3_isSideMet_32 rfl ?_
      refine q_Vi (av := [vi m]) (st := []) (c_X7_placeBehind hS6 (by omega) (by omega)) lk_RX3_63 (by decide) rfl rfl hS6.ob ⟨_, rfl, rfl⟩ (Nat.le_of_ble_eq_true rfl) eX3_isSideMet_34 (fun z12 e13 => ?_)
      obtain ⟨e13, e13a, e13b⟩ := e13
      have hsn := gm_side_ne hD hE p0 (by omega) m0 (by omega)
      rw [← e13] at hsn
      refine q_blk (lv2 := [(0, vr j), (1, vi p), (2, vr (b + 6 + 3 * (Int.toNat p))), (3, vi m), (4, vi z12)]) (st2 := [vr j]) kX3_isSideMet_37 rfl ?_
      refine q_gr eX3_isSideMet_40 fl_RX3_12 (Or.inl ⟨_, rfl⟩) hJ rfl ?_
      refine q_blk (lv2 := [(0, vr j), (1, vi p), (2, vr (b + 6 + 3 * (Int.toNat p))), (3, vi m), (4, vi z12)]) (st2 := [vi m, vi p, vr l]) kX3_isSideMet_43 rfl ?_
      refine q_Vi (av := [vi p, vi m]) (st := []) (c_X4_losesSide hL q1 q2 q3 q4 ⟨by omega, by omega⟩ ⟨by omega, by omega⟩) lk_RX3_103 (by decide) rfl rfl hL.ob ⟨_, rfl, rfl⟩ (Nat.le_of_ble_eq_true rfl) eX3_isSideMet_45 (fun z14 e15 => ?_)
      rcases e15 with ⟨rfl, e15⟩ | ⟨rfl, e15⟩
      · skip
        refine AQ.of (AS.if_ne_t (tgt := 85) eX3_isSideMet_48 (by decide) ⟨by decide, by decide⟩ (by decide)) ?_
        refine q_blk (lv2 := [(0, vr j), (1, vi p), (2, vr (b + 6 + 3 * (Int.toNat p))), (3, vi (m + 1)), (4, vi z12)]) (st2 := []) kX3_isSideMet_85 rfl ?_
        refine q_goto (tgt := 24) eX3_isSideMet_88 (by decide) ?_
        refine q_sub (lv2 := [(0, vr j), (1, vi p), (2, vr (b + 6 + 3 * (Int.toNat p))), (3, vi (m + 1))]) [0, 1, 2, 3] rfl ?_
        exact ih7 (m + 1) (⟨⟨by omega, by omega⟩, fun k k0 k1 ⟨q1, q2⟩ => by
          by_cases e : k = m
          · subst e; exact q1 e15
          · exact hnk k k0 (by omega) ⟨q1, q2⟩⟩) (by omega)
      · skip
        refine AQ.of (AS.if_ne_f eX3_isSideMet_48 ⟨by decide, by decide⟩ (by decide) (by decide)) ?_
        refine q_blk (lv2 := [(0, vr j), (1, vi p), (2, vr (b + 6 + 3 * (Int.toNat p))), (3, vi m), (4, vi z12)]) (st2 := [vr j]) kX3_isSideMet_51 rfl ?_
        refine q_gr eX3_isSideMet_52 fl_RX3_12 (Or.inl ⟨_, rfl⟩) hJ rfl ?_
        refine q_blk (lv2 := [(0, vr j), (1, vi p), (2, vr (b + 6 + 3 * (Int.toNat p))), (3, vi m), (4, vi z12)]) (st2 := [vi m, vr (b + 6 + 3 * (Int.toNat p)), vr l]) kX3_isSideMet_55 rfl ?_
        refine q_Vi (av := [vi m]) (st := [vr l]) (c_X7_xAt hS6 (by omega) (by omega)) lk_RX3_45 (by decide) rfl rfl hS6.ob ⟨_, rfl, rfl⟩ (Nat.le_of_ble_eq_true rfl) eX3_isSideMet_57 (fun z16 e17 => ?_)
        subst e17
        refine q_blk (lv2 := [(0, vr j), (1, vi p), (2, vr (b + 6 + 3 * (Int.toNat p))), (3, vi m), (4, vi z12)]) (st2 := [vi m, vr (b + 6 + 3 * (Int.toNat p)), vi ((pX D p) m), vr l]) kX3_isSideMet_60 rfl ?_
        refine q_Vi (av := [vi m]) (st := [vi ((pX D p) m), vr l]) (c_X7_yAt hS6 (by omega) (by omega)) lk_RX3_49 (by decide) rfl rfl hS6.ob ⟨_, rfl, rfl⟩ (Nat.le_of_ble_eq_true rfl) eX3_isSideMet_62 (fun z18 e19 => ?_)
        subst e19
        refine q_blk (lv2 := [(0, vr j), (1, vi p), (2, vr (b + 6 + 3 * (Int.toNat p))), (3, vi m), (4, vi z12)]) (st2 := [vi z12, vr (b + 6 + 3 * (Int.toNat p)), vi ((pY D p) m), vi ((pX D p) m), vr l]) kX3_isSideMet_65 rfl ?_
        refine q_Vi (av := [vi z12]) (st := [vi ((pY D p) m), vi ((pX D p) m), vr l]) (c_X7_xAt hS6 (by omega) (by omega)) lk_RX3_45 (by decide) rfl rfl hS6.ob ⟨_, rfl, rfl⟩ (Nat.le_of_ble_eq_true rfl) eX3_isSideMet_68 (fun z20 e21 => ?_)
        subst e21
        refine q_blk (lv2 := [(0, vr j), (1, vi p), (2, vr (b + 6 + 3 * (Int.toNat p))), (3, vi m), (4, vi z12)]) (st2 := [vi z12, vr (b + 6 + 3 * (Int.toNat p)), vi ((pX D p) z12), vi ((pY D p) m), vi ((pX D p) m), vr l]) kX3_isSideMet_71 rfl ?_
        refine q_Vi (av := [vi z12]) (st := [vi ((pX D p) z12), vi ((pY D p) m), vi ((pX D p) m), vr l]) (c_X7_yAt hS6 (by omega) (by omega)) lk_RX3_49 (by decide) rfl rfl hS6.ob ⟨_, rfl, rfl⟩ (Nat.le_of_ble_eq_true rfl) eX3_isSideMet_74 (fun z22 e23 => ?_)
        subst e23
        refine q_Vi (av := [vi ((pX D p) m), vi ((pY D p) m), vi ((pX D p) z12), vi ((pY D p) z12)]) (st := []) (c_X4_meets hL h_ax h_ay h_bx h_by (hV6 m (by omega) (by omega)).1 (hV6 m (by omega) (by omega)).2 (hV6 z12 (by omega) (by omega)).1 (hV6 z12 (by omega) (by omega)).2 hab hsn) lk_RX3_106 (by decide) rfl rfl hL.ob ⟨_, rfl, rfl⟩ (Nat.le_of_ble_eq_true rfl) eX3_isSideMet_77 (fun z24 e25 => ?_)
        rcases e25 with ⟨rfl, e25⟩ | ⟨rfl, e25⟩
        · skip
          refine AQ.of (AS.if_eq_f eX3_isSideMet_80 ⟨by decide, by decide⟩ (by decide) (by decide)) ?_
          refine q_blk (lv2 := [(0, vr j), (1, vi p), (2, vr (b + 6 + 3 * (Int.toNat p))), (3, vi m), (4, vi z12)]) (st2 := [vi 1]) kX3_isSideMet_83 rfl ?_
          exact q_rz rfl eX3_isSideMet_84 (by decide) ⟨1, rfl, Or.inl ⟨rfl, p, p0, by omega, m, m0, by omega, e15, by rw [← e13]; exact e25⟩, rfl⟩
        · skip
          refine AQ.of (AS.if_eq_t (tgt := 85) eX3_isSideMet_80 (by decide) ⟨by decide, by decide⟩ (by decide)) ?_
          refine q_blk (lv2 := [(0, vr j), (1, vi p), (2, vr (b + 6 + 3 * (Int.toNat p))), (3, vi (m + 1)), (4, vi z12)]) (st2 := []) kX3_isSideMet_85 rfl ?_
          refine q_goto (tgt := 24) eX3_isSideMet_88 (by decide) ?_
          refine q_sub (lv2 := [(0, vr j), (1, vi p), (2, vr (b + 6 + 3 * (Int.toNat p))), (3, vi (m + 1))]) [0, 1, 2, 3] rfl ?_
          exact ih7 (m + 1) (⟨⟨by omega, by omega⟩, fun k k0 k1 ⟨q1, q2⟩ => by
          by_cases e : k = m
          · subst e; rw [← e13] at q2; exact e25 q2
          · exact hnk k k0 (by omega) ⟨q1, q2⟩⟩) (by omega)

set_option maxHeartbeats 1000000 in
theorem c_X3_reasonOfLine {w : am_w} {h : AH} {j b l : Nat} {D cm : Int → Int} {sc : Nat} {ax ay bx by' lp lc l1 l2 : Int} (hJ : JD h j b l) (hB : BD h b D cm sc) (hD : VD D) (hL : LN h l ax ay bx by' lp lc l1 l2) (h_ax : am_c ax) (h_ay : am_c ay) (h_bx : am_c bx) (h_by : am_c by') (q1 : -1 ≤ lp ∧ lp ≤ 100) (q2 : -1 ≤ lc ∧ lc ≤ 100) (q3 : -1 ≤ l1 ∧ l1 ≤ 100) (q4 : -1 ≤ l2 ∧ l2 ≤ 100) (hE : VE D) (hab : bx ≠ ax ∨ by' ≠ ay)  : AE w m_X3_reasonOfLine 5 [vr j] h (am_intp h (fun z => gm_lr D lp lc l1 l2 ax ay bx by' z)) := by
  refine AE.of wf_X3_reasonOfLine (Nat.le_of_ble_eq_true rfl) (am_ok_ip) ?_
  have hJ := id hJ
  refine q_blk (lv2 := [(0, vr j)]) (st2 := [vr j]) kX3_reasonOfLine_0 rfl ?_
  refine q_Vi (av := []) (st := []) (c_X3_isStoneOnLine hJ hB hD hL h_ax h_ay h_bx h_by) lk_RX3_69 (by decide) rfl rfl (JD.ob hJ) ⟨_, rfl, rfl⟩ (Nat.le_of_ble_eq_true rfl) eX3_reasonOfLine_1 (fun z1 e2 => ?_)
  rcases e2 with ⟨rfl, e2⟩ | ⟨rfl, e2⟩
  · skip
    refine AQ.of (AS.if_ne_t (tgt := 14) eX3_reasonOfLine_4 (by decide) ⟨by decide, by decide⟩ (by decide)) ?_
    refine q_blk (lv2 := [(0, vr j)]) (st2 := [vi 4]) kX3_reasonOfLine_14 rfl ?_
    exact q_ri rfl eX3_reasonOfLine_15 ⟨4, rfl, Or.inl ⟨Or.inl e2, rfl⟩, rfl⟩
  · skip
    refine AQ.of (AS.if_ne_f eX3_reasonOfLine_4 ⟨by decide, by decide⟩ (by decide) (by decide)) ?_
    refine q_blk (lv2 := [(0, vr j)]) (st2 := [vr j]) kX3_reasonOfLine_7 rfl ?_
    refine q_Vi (av := []) (st := []) (c_X3_isCornerOnLine hJ hB hD hL h_ax h_ay h_bx h_by q1 q2 q3 q4) lk_RX3_73 (by decide) rfl rfl (JD.ob hJ) ⟨_, rfl, rfl⟩ (Nat.le_of_ble_eq_true rfl) eX3_reasonOfLine_8 (fun z3 e4 => ?_)
    rcases e4 with ⟨rfl, e4⟩ | ⟨rfl, e4⟩
    · skip
      refine AQ.of (AS.if_eq_f eX3_reasonOfLine_11 ⟨by decide, by decide⟩ (by decide) (by decide)) ?_
      refine q_blk (lv2 := [(0, vr j)]) (st2 := [vi 4]) kX3_reasonOfLine_14 rfl ?_
      exact q_ri rfl eX3_reasonOfLine_15 ⟨4, rfl, Or.inl ⟨Or.inr e4, rfl⟩, rfl⟩
    · skip
      refine AQ.of (AS.if_eq_t (tgt := 16) eX3_reasonOfLine_11 (by decide) ⟨by decide, by decide⟩ (by decide)) ?_
      refine q_blk (lv2 := [(0, vr j)]) (st2 := [vr j]) kX3_reasonOfLine_16 rfl ?_
      refine q_Vi (av := []) (st := []) (c_X3_isSideMet hJ hB hD hL h_ax h_ay h_bx h_by q1 q2 q3 q4 hE hab) lk_RX3_76 (by decide) rfl rfl (JD.ob hJ) ⟨_, rfl, rfl⟩ (Nat.le_of_ble_eq_true rfl) eX3_reasonOfLine_17 (fun z5 e6 => ?_)
      rcases e6 with ⟨rfl, e6⟩ | ⟨rfl, e6⟩
      · skip
        refine AQ.of (AS.if_eq_f eX3_reasonOfLine_20 ⟨by decide, by decide⟩ (by decide) (by decide)) ?_
        refine q_blk (lv2 := [(0, vr j)]) (st2 := [vi 5]) kX3_reasonOfLine_23 rfl ?_
        refine q_goto (tgt := 28) eX3_reasonOfLine_24 (by decide) ?_
        exact q_ri rfl eX3_reasonOfLine_28 ⟨5, rfl, Or.inr ⟨(fun q => q.elim e2 e4), Or.inl ⟨e6, rfl⟩⟩, rfl⟩
      · skip
        refine AQ.of (AS.if_eq_t (tgt := 27) eX3_reasonOfLine_20 (by decide) ⟨by decide, by decide⟩ (by decide)) ?_
        refine q_blk (lv2 := [(0, vr j)]) (st2 := [vi 0]) kX3_reasonOfLine_27 rfl ?_
        exact q_ri rfl eX3_reasonOfLine_28 ⟨0, rfl, Or.inr ⟨(fun q => q.elim e2 e4), Or.inr ⟨e6, rfl⟩⟩, rfl⟩
