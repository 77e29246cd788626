/-! CornerClaims$Geometry and CornerClaims$Shape: reads. -/
def gm_turn (ax ay bx by' px py : Int) : Int := (bx - ax) * (py - ay) - (by' - ay) * (px - ax)
/-- on the line from A to B, in the class's words -/
def gm_on (ax ay bx by' px py : Int) : Prop := (ax - px) * (bx - px) + (ay - py) * (by' - py) ≤ 0 ∧ (bx - ax) * (py - ay) = (by' - ay) * (px - ax)
def am_c (z : Int) : Prop := 0 ≤ z ∧ z ≤ 30
theorem am_mul30 {a b : Int} (h1 : -30 ≤ a) (h2 : a ≤ 30) (h3 : -30 ≤ b) (h4 : b ≤ 30) : -900 ≤ a * b ∧ a * b ≤ 900 := by
  have e1 : 0 ≤ (30 - a) * (30 - b) := Int.mul_nonneg (by omega) (by omega)
  have e2 : 0 ≤ (30 + a) * (30 + b) := Int.mul_nonneg (by omega) (by omega)
  have e3 : 0 ≤ (30 - a) * (30 + b) := Int.mul_nonneg (by omega) (by omega)
  have e4 : 0 ≤ (30 + a) * (30 - b) := Int.mul_nonneg (by omega) (by omega)
  rw [Int.sub_mul, Int.mul_sub, Int.mul_sub] at e1
  rw [Int.add_mul, Int.mul_add, Int.mul_add] at e2
  rw [Int.sub_mul, Int.mul_add, Int.mul_add] at e3
  rw [Int.add_mul, Int.mul_sub, Int.mul_sub] at e4
  omega
theorem am_c30 {a b : Int} (ha : am_c a) (hb : am_c b) : -30 ≤ a - b ∧ a - b ≤ 30 := ⟨by have := ha.1; have := hb.2; omega, by have := ha.2; have := hb.1; omega⟩
theorem am_cc {a b c e : Int} (ha : am_c a) (hb : am_c b) (hc : am_c c) (he : am_c e) : -900 ≤ (a - b) * (c - e) ∧ (a - b) * (c - e) ≤ 900 := am_mul30 (am_c30 ha hb).1 (am_c30 ha hb).2 (am_c30 hc he).1 (am_c30 hc he).2
theorem gm_turn_r {ax ay bx by' px py : Int} (h1 : am_c ax) (h2 : am_c ay) (h3 : am_c bx) (h4 : am_c by') (h5 : am_c px) (h6 : am_c py) : -1800 ≤ gm_turn ax ay bx by' px py ∧ gm_turn ax ay bx by' px py ≤ 1800 := by
  have e1 := am_cc h3 h1 h6 h2
  have e2 := am_cc h4 h2 h5 h1
  unfold gm_turn
  omega
/-- a polygon's cells: the object, its two rows -/
def SP (h : AH) (a : Nat) (n cl ow : Int) (fx fy : Int → Int) : Prop := h.1 a = some (6, 5, am_L [0, 0, ow, n, cl], am_G [some (a + 1), some (a + 2), none, none, none]) ∧ h.1 (a + 1) = some (100, 12, fx, am_N) ∧ h.1 (a + 2) = some (100, 12, fy, am_N)

set_option maxHeartbeats 1000000 in
theorem c_X1_turn {w : am_w} {h : AH} (ax ay bx by' px py : Int) : AE w m_X1_turn 1 [vi ax, vi ay, vi bx, vi by', vi px, vi py] h (am_intp h (fun z => z = gm_turn ax ay bx by' px py)) := by
  refine AE.of wf_X1_turn (Nat.le_of_ble_eq_true rfl) (am_ok_ip) ?_
  refine q_blk (lv2 := [(0, vi ax), (1, vi ay), (2, vi bx), (3, vi by'), (4, vi px), (5, vi py)]) (st2 := [vi (((bx - ax) * (py - ay)) - ((by' - ay) * (px - ax)))]) kX1_turn_0 rfl ?_
  exact q_ri rfl eX1_turn_17 ⟨(((bx - ax) * (py - ay)) - ((by' - ay) * (px - ax))), rfl, rfl, rfl⟩

set_option maxHeartbeats 1000000 in
theorem c_X1_isOnSegment {w : am_w} {h : AH} {ax ay bx by' px py : Int} (h1 : am_c ax) (h2 : am_c ay) (h3 : am_c bx) (h4 : am_c by') (h5 : am_c px) (h6 : am_c py) : AE w m_X1_isOnSegment 1 [vi ax, vi ay, vi bx, vi by', vi px, vi py] h (am_intp h (fun z => am_b z (gm_on ax ay bx by' px py))) := by
  refine AE.of wf_X1_isOnSegment (Nat.le_of_ble_eq_true rfl) (am_ok_zp (fun z q => am_bz q)) ?_
  have e1 := am_cc h1 h5 h3 h5
  have e2 := am_cc h2 h6 h4 h6
  have e3 := am_cc h3 h1 h6 h2
  have e4 := am_cc h4 h2 h5 h1
  refine q_blk (lv2 := [(0, vi ax), (1, vi ay), (2, vi bx), (3, vi by'), (4, vi px), (5, vi py)]) (st2 := [vi (((ax - px) * (bx - px)) + ((ay - py) * (by' - py)))]) kX1_isOnSegment_0 rfl ?_
  refine AQ.if_gt (tgt := 26) eX1_isOnSegment_19 (by decide) (by first | assumption | exact ⟨by omega, by omega⟩) (fun c1 => ?_) (fun c1 => ?_)
  · skip
    refine q_blk (lv2 := [(0, vi ax), (1, vi ay), (2, vi bx), (3, vi by'), (4, vi px), (5, vi py)]) (st2 := [vi 0]) kX1_isOnSegment_26 rfl ?_
    refine q_blk (lv2 := [(0, vi ax), (1, vi ay), (2, vi bx), (3, vi by'), (4, vi px), (5, vi py), (6, vi 0)]) (st2 := [vi 0]) kX1_isOnSegment_27 rfl ?_
    refine AQ.of (AS.if_eq_t (tgt := 57) eX1_isOnSegment_31 (by decide) ⟨by decide, by decide⟩ (by decide)) ?_
    refine q_blk (lv2 := [(0, vi ax), (1, vi ay), (2, vi bx), (3, vi by'), (4, vi px), (5, vi py), (6, vi 0)]) (st2 := [vi 0]) kX1_isOnSegment_57 rfl ?_
    exact q_rz rfl eX1_isOnSegment_58 (by decide) ⟨0, rfl, Or.inr ⟨rfl, by unfold gm_on; omega⟩, rfl⟩
  · skip
    refine q_blk (lv2 := [(0, vi ax), (1, vi ay), (2, vi bx), (3, vi by'), (4, vi px), (5, vi py)]) (st2 := [vi 1]) kX1_isOnSegment_22 rfl ?_
    refine q_goto (tgt := 27) eX1_isOnSegment_23 (by decide) ?_
    refine q_blk (lv2 := [(0, vi ax), (1, vi ay), (2, vi bx), (3, vi by'), (4, vi px), (5, vi py), (6, vi 1)]) (st2 := [vi 1]) kX1_isOnSegment_27 rfl ?_
    refine AQ.of (AS.if_eq_f eX1_isOnSegment_31 ⟨by decide, by decide⟩ (by decide) (by decide)) ?_
    refine q_blk (lv2 := [(0, vi ax), (1, vi ay), (2, vi bx), (3, vi by'), (4, vi px), (5, vi py), (6, vi 1)]) (st2 := [vi ((by' - ay) * (px - ax)), vi ((bx - ax) * (py - ay))]) kX1_isOnSegment_34 rfl ?_
    refine AQ.ic_ne (tgt := 57) eX1_isOnSegment_50 (by decide) (by first | assumption | exact ⟨by omega, by omega⟩) (by first | assumption | exact ⟨by omega, by omega⟩) (fun c2 => ?_) (fun c2 => ?_)
    · skip
      refine q_blk (lv2 := [(0, vi ax), (1, vi ay), (2, vi bx), (3, vi by'), (4, vi px), (5, vi py), (6, vi 1)]) (st2 := [vi 0]) kX1_isOnSegment_57 rfl ?_
      exact q_rz rfl eX1_isOnSegment_58 (by decide) ⟨0, rfl, Or.inr ⟨rfl, by unfold gm_on; omega⟩, rfl⟩
    · skip
      refine q_blk (lv2 := [(0, vi ax), (1, vi ay), (2, vi bx), (3, vi by'), (4, vi px), (5, vi py), (6, vi 1)]) (st2 := [vi 1]) kX1_isOnSegment_53 rfl ?_
      refine q_goto (tgt := 58) eX1_isOnSegment_54 (by decide) ?_
      exact q_rz rfl eX1_isOnSegment_58 (by decide) ⟨1, rfl, Or.inl ⟨rfl, by unfold gm_on; omega⟩, rfl⟩

set_option maxHeartbeats 1000000 in
theorem c_X7_xAt {w : am_w} {h : AH} {a : Nat} {n cl ow : Int} {fx fy : Int → Int} (hS : SP h a n cl ow fx fy) {k : Int} (h0 : 0 ≤ k) (h1 : k < 12) : AE w m_X7_xAt 1 [vr a, vi k] h (am_intp h (fun z => z = fx k)) := by
  refine AE.of wf_X7_xAt (Nat.le_of_ble_eq_true rfl) (am_ok_ip) ?_
  refine q_blk (lv2 := [(0, vr a), (1, vi k)]) (st2 := [vi k]) kX7_xAt_0 rfl ?_
  refine AQ.of (AS.if_lt_f eX7_xAt_1 (by first | assumption | exact ⟨by omega, by omega⟩) (by omega) (by decide)) ?_
  refine q_blk (lv2 := [(0, vr a), (1, vi k)]) (st2 := [vr a, vi k]) kX7_xAt_4 rfl ?_
  refine q_gr eX7_xAt_6 fl_RX7_9 (Or.inr ⟨_, rfl⟩) hS.1 rfl ?_
  refine q_al eX7_xAt_9 hS.2.1 (by decide) ?_
  refine AQ.of (AS.ic_ge_f eX7_xAt_10 (by first | assumption | exact ⟨by omega, by omega⟩) ⟨by decide, by decide⟩ (by omega) (by decide)) ?_
  refine q_blk (lv2 := [(0, vr a), (1, vi k)]) (st2 := [vr a]) kX7_xAt_13 rfl ?_
  refine q_gr eX7_xAt_14 fl_RX7_9 (Or.inr ⟨_, rfl⟩) hS.1 rfl ?_
  refine q_blk (lv2 := [(0, vr a), (1, vi k)]) (st2 := [vi k, vr (a + 1)]) kX7_xAt_17 rfl ?_
  refine q_ia eX7_xAt_18 hS.2.1 (by decide) (by omega) (by omega) (z := (fx k)) rfl ?_
  refine q_goto (tgt := 23) eX7_xAt_19 (by decide) ?_
  exact q_ri rfl eX7_xAt_23 ⟨(fx k), rfl, rfl, rfl⟩

set_option maxHeartbeats 1000000 in
theorem c_X7_yAt {w : am_w} {h : AH} {a : Nat} {n cl ow : Int} {fx fy : Int → Int} (hS : SP h a n cl ow fx fy) {k : Int} (h0 : 0 ≤ k) (h1 : k < 12) : AE w m_X7_yAt 1 [vr a, vi k] h (am_intp h (fun z => z = fy k)) := by
  refine AE.of wf_X7_yAt (Nat.le_of_ble_eq_true rfl) (am_ok_ip) ?_
  refine q_blk (lv2 := [(0, vr a), (1, vi k)]) (st2 := [vi k]) kX7_yAt_0 rfl ?_
  refine AQ.of (AS.if_lt_f eX7_yAt_1 (by first | assumption | exact ⟨by omega, by omega⟩) (by omega) (by decide)) ?_
  refine q_blk (lv2 := [(0, vr a), (1, vi k)]) (st2 := [vr a, vi k]) kX7_yAt_4 rfl ?_
  refine q_gr eX7_yAt_6 fl_RX7_15 (Or.inr ⟨_, rfl⟩) hS.1 rfl ?_
  refine q_al eX7_yAt_9 hS.2.2 (by decide) ?_
  refine AQ.of (AS.ic_ge_f eX7_yAt_10 (by first | assumption | exact ⟨by omega, by omega⟩) ⟨by decide, by decide⟩ (by omega) (by decide)) ?_
  refine q_blk (lv2 := [(0, vr a), (1, vi k)]) (st2 := [vr a]) kX7_yAt_13 rfl ?_
  refine q_gr eX7_yAt_14 fl_RX7_15 (Or.inr ⟨_, rfl⟩) hS.1 rfl ?_
  refine q_blk (lv2 := [(0, vr a), (1, vi k)]) (st2 := [vi k, vr (a + 2)]) kX7_yAt_17 rfl ?_
  refine q_ia eX7_yAt_18 hS.2.2 (by decide) (by omega) (by omega) (z := (fy k)) rfl ?_
  refine q_goto (tgt := 23) eX7_yAt_19 (by decide) ?_
  exact q_ri rfl eX7_yAt_23 ⟨(fy k), rfl, rfl, rfl⟩
