/-! CornerClaims$Geometry and CornerClaims$Shape: what reads. -/
/-- a polygon's cells: the object, its two rows -/
def SP (h : AH) (a : Nat) (n cl ow : Int) (fx fy : Int → Int) : Prop := h.1 a = some (6, 5, am_L [0, 0, ow, n, cl], am_G [some (a + 1), some (a + 2), none, none, none]) ∧ h.1 (a + 1) = some (100, 12, fx, am_N) ∧ h.1 (a + 2) = some (100, 12, fy, am_N)
/-- .. which hold these corners -/
def SX (h : AH) (a : Nat) (n cl ow : Int) (xs ys : Int → Int) : Prop := ∃ fx fy, SP h a n cl ow fx fy ∧ (0 ≤ n ∧ n ≤ 12) ∧ (cl = 0 ∨ cl = 1) ∧ ∀ k, 0 ≤ k → k < n → fx k = xs k ∧ fy k = ys k
theorem SX.ob {h : AH} {a : Nat} {n cl ow : Int} {xs ys : Int → Int} (hS : SX h a n cl ow xs ys) : am_ob h a 6 := by
  obtain ⟨fx, fy, hP, -⟩ := hS
  exact ⟨_, _, _, hP.1⟩

set_option maxHeartbeats 1000000 in
theorem c_X1_turn {w : am_w} {h : AH} (ax ay bx by' px py : Int) : AE w m_X1_turn 1 [vi ax, vi ay, vi bx, vi by', vi px, vi py] h (am_intp h (fun z => z = gm_turn ax ay bx by' px py)) := by
  refine AE.of wf_X1_turn (Nat.le_of_ble_eq_true rfl) (am_ok_ip) ?_
  refine q_blk (lv2 := [(0, vi ax), (1, vi ay), (2, vi bx), (3, vi by'), (4, vi px), (5, vi py)]) (st2 := [vi (((bx - ax) * (py - ay)) - ((by' - ay) * (px - ax)))]) kX1_turn_0 rfl ?_
  exact q_ri rfl eX1_turn_17 ⟨(((bx - ax) * (py - ay)) - ((by' - ay) * (px - ax))), rfl, rfl, rfl⟩

set_option maxHeartbeats 1000000 in
theorem c_X1_isOnSegment {w : am_w} {h : AH} {ax ay bx by' px py : Int} (h1 : am_c ax) (h2 : am_c ay) (h3 : am_c bx) (h4 : am_c by') (h5 : am_c px) (h6 : am_c py) : AE w m_X1_isOnSegment 1 [vi ax, vi ay, vi bx, vi by', vi px, vi py] h (am_intp h (fun z => am_b z (gm_on ax ay bx by' px py))) := by
  refine AE.of wf_X1_isOnSegment (Nat.le_of_ble_eq_true rfl) (am_ok_zp (fun z q => am_bz q)) ?_
  have e1 := am_cc h1 h5 h3 h5
  have e2 := am_cc h2 h6 h4 h6
  have e3 := am_cc h3 h1 h6 h2
  have e4 := am_cc h4 h2 h5 h1
  refine q_blk (lv2 := [(0, vi ax), (1, vi ay), (2, vi bx), (3, vi by'), (4, vi px), (5, vi py)]) (st2 := [vi (((ax - px) * (bx - px)) + ((ay - py) * (by' - py)))]) kX1_isOnSegment_0 rfl ?_
  refine AQ.if_gt (tgt := 26) eX1_isOnSegment_19 (by decide) (by first | assumption | exact ⟨by omega, by omega⟩) (fun br1 => ?_) (fun br1 => ?_)
  · skip
    refine q_blk (lv2 := [(0, vi ax), (1, vi ay), (2, vi bx), (3, vi by'), (4, vi px), (5, vi py)]) (st2 := [vi 0]) kX1_isOnSegment_26 rfl ?_
    refine q_blk (lv2 := [(0, vi ax), (1, vi ay), (2, vi bx), (3, vi by'), (4, vi px), (5, vi py), (6, vi 0)]) (st2 := [vi 0]) kX1_isOnSegment_27 rfl ?_
    refine AQ.of (AS.if_eq_t (tgt := 57) eX1_isOnSegment_31 (by decide) ⟨by decide, by decide⟩ (by decide)) ?_
    refine q_blk (lv2 := [(0, vi ax), (1, vi ay), (2, vi bx), (3, vi by'), (4, vi px), (5, vi py), (6, vi 0)]) (st2 := [vi 0]) kX1_isOnSegment_57 rfl ?_
    exact q_rz rfl eX1_isOnSegment_58 (by decide) ⟨0, rfl, Or.inr ⟨rfl, by unfold gm_on; omega⟩, rfl⟩
  · skip
    refine q_blk (lv2 := [(0, vi ax), (1, vi ay), (2, vi bx), (3, vi by'), (4, vi px), (5, vi py)]) (st2 := [vi 1]) kX1_isOnSegment_22 rfl ?_
    refine q_goto (tgt := 27) eX1_isOnSegment_23 (by decide) ?_
    refine q_blk (lv2 := [(0, vi ax), (1, vi ay), (2, vi bx), (3, vi by'), (4, vi px), (5, vi py), (6, vi 1)]) (st2 := [vi 1]) kX1_isOnSegment_27 rfl ?_
    refine AQ.of (AS.if_eq_f eX1_isOnSegment_31 ⟨by decide, by decide⟩ (by decide) (by decide)) ?_
    refine q_blk (lv2 := [(0, vi ax), (1, vi ay), (2, vi bx), (3, vi by'), (4, vi px), (5, vi py), (6, vi 1)]) (st2 := [vi ((by' - ay) * (px - ax)), vi ((bx - ax) * (py - ay))]) kX1_isOnSegment_34 rfl ?_
    refine AQ.ic_ne (tgt := 57) eX1_isOnSegment_50 (by decide) (by first | assumption | exact ⟨by omega, by omega⟩) (by first | assumption | exact ⟨by omega, by omega⟩) (fun br2 => ?_) (fun br2 => ?_)
    · skip
      refine q_blk (lv2 := [(0, vi ax), (1, vi ay), (2, vi bx), (3, vi by'), (4, vi px), (5, vi py), (6, vi 1)]) (st2 := [vi 0]) kX1_isOnSegment_57 rfl ?_
      exact q_rz rfl eX1_isOnSegment_58 (by decide) ⟨0, rfl, Or.inr ⟨rfl, by unfold gm_on; omega⟩, rfl⟩
    · skip
      refine q_blk (lv2 := [(0, vi ax), (1, vi ay), (2, vi bx), (3, vi by'), (4, vi px), (5, vi py), (6, vi 1)]) (st2 := [vi 1]) kX1_isOnSegment_53 rfl ?_
      refine q_goto (tgt := 58) eX1_isOnSegment_54 (by decide) ?_
      exact q_rz rfl eX1_isOnSegment_58 (by decide) ⟨1, rfl, Or.inl ⟨rfl, by unfold gm_on; omega⟩, rfl⟩

theorem gm_abs_nat (z : Int) : gm_abs z = (z.natAbs : Int) := by unfold gm_abs; split <;> omega
theorem gm_gcd_abs (a b : Int) : Int.gcd (gm_abs a) (gm_abs b) = Int.gcd a b := by
  rw [gm_abs_nat, gm_abs_nat]; simp [Int.gcd]
theorem gm_gcd_step {a b : Int} (h0 : 0 ≤ a) (h1 : 0 < b) : Int.gcd b (Int.tmod a b) = Int.gcd a b := by
  obtain ⟨x, rfl⟩ := Int.eq_ofNat_of_zero_le h0
  obtain ⟨y, rfl⟩ := Int.eq_ofNat_of_zero_le (Int.le_of_lt h1)
  show Nat.gcd y ((Int.tmod (x : Int) (y : Int)).natAbs) = Nat.gcd x y
  rw [show Int.tmod (x : Int) (y : Int) = ((x % y : Nat) : Int) from rfl, Int.natAbs_natCast, Nat.gcd_comm x y, Nat.gcd_comm y (x % y)]
  exact (Nat.gcd_rec y x).symm
theorem gm_tm {a b : Int} (h0 : 0 ≤ a) (h1 : 0 < b) : 0 ≤ Int.tmod a b ∧ Int.tmod a b < b := ⟨Int.tmod_nonneg b h0, Int.tmod_lt_of_pos a h1⟩

set_option maxHeartbeats 1000000 in
theorem c_X1_steps {w : am_w} {h : AH} {a b : Int} (h1 : -30 ≤ a) (h2 : a ≤ 30) (h3 : -30 ≤ b) (h4 : b ≤ 30) : AE w m_X1_steps 2 [vi a, vi b] h (am_intp h (fun z => z = (Int.gcd a b : Int))) := by
  refine AE.of wf_X1_steps (Nat.le_of_ble_eq_true rfl) (am_ok_ip) ?_
  have a1 := gm_abs_r (z := a) (B := 30) ⟨by omega, by omega⟩
  have a2 := gm_abs_r (z := b) (B := 30) ⟨by omega, by omega⟩
  refine q_blk (lv2 := [(0, vi a), (1, vi b)]) (st2 := [vi a]) kX1_steps_0 rfl ?_
  refine AQ.of (AS.mabs eX1_steps_1 (by first | assumption | exact ⟨by omega, by omega⟩) (am_gw 413 (by decide +kernel) (by decide +kernel)) (am_gw 372 (by decide +kernel) (by decide +kernel)) (am_gw 53 (by decide +kernel) (by decide +kernel)) (am_gw 373 (by decide +kernel) (by decide +kernel)) (by decide) (Nat.le_of_ble_eq_true rfl)) ?_
  obtain ⟨z1, e2⟩ : ∃ q : Int, q = (if 0 ≤ a then a else -a) := ⟨_, rfl⟩
  rw [← e2]
  refine q_blk (lv2 := [(0, vi a), (1, vi b), (2, vi z1)]) (st2 := [vi b]) kX1_steps_4 rfl ?_
  refine AQ.of (AS.mabs eX1_steps_6 (by first | assumption | exact ⟨by omega, by omega⟩) (am_gw 413 (by decide +kernel) (by decide +kernel)) (am_gw 372 (by decide +kernel) (by decide +kernel)) (am_gw 53 (by decide +kernel) (by decide +kernel)) (am_gw 373 (by decide +kernel) (by decide +kernel)) (by decide) (Nat.le_of_ble_eq_true rfl)) ?_
  obtain ⟨z3, e4⟩ : ∃ q : Int, q = (if 0 ≤ b then b else -b) := ⟨_, rfl⟩
  rw [← e4]
  refine q_blk (lv2 := [(0, vi a), (1, vi b), (2, vi z1), (3, vi z3), (4, vi 0)]) (st2 := []) kX1_steps_9 rfl ?_
  have ev : z1 = gm_abs a := e2
  have ew : z3 = gm_abs b := e4
  refine q_sub (lv2 := [(2, vi z1), (3, vi z3), (4, vi 0)]) [2, 3, 4] rfl ?_
  refine am_lp3 (I := fun (p : Int) (q : Int) (i : Int) => (0 ≤ p ∧ p ≤ 30) ∧ (0 ≤ q ∧ q ≤ 30 - i ∧ 0 ≤ i) ∧ Int.gcd p q = Int.gcd a b) (μ := fun (p : Int) (q : Int) (i : Int) => (31 - i).toNat) (G := fun (p : Int) (q : Int) (i : Int) => AQ w m_X1_steps 2 13 [(2, vi p), (3, vi q), (4, vi i)] [] h (am_intp h (fun z => z = (Int.gcd a b : Int)))) ?_ z1 z3 0 (⟨by omega, by omega, by rw [ev, ew]; exact gm_gcd_abs a b⟩)
  intro p q i hI6 ih5
  obtain ⟨⟨p0, p1⟩, ⟨q0, q1, i0⟩, hg⟩ := hI6
  refine q_blk (lv2 := [(2, vi p), (3, vi q), (4, vi i)]) (st2 := [vi 30, vi i]) kX1_steps_13 rfl ?_
  refine AQ.ic_gt (tgt := 40) eX1_steps_17 (by decide) (by first | assumption | exact ⟨by omega, by omega⟩) ⟨by decide, by decide⟩ (fun br7 => ?_) (fun br7 => ?_)
  · skip
    refine q_blk (lv2 := [(2, vi p), (3, vi q), (4, vi i)]) (st2 := [vi p]) kX1_steps_40 rfl ?_
    exact q_ri rfl eX1_steps_41 ⟨p, rfl, (by have hq : q = 0 := (by omega); subst hq; rw [← hg]; simp; omega), rfl⟩
  · skip
    refine q_blk (lv2 := [(2, vi p), (3, vi q), (4, vi i)]) (st2 := [vi q]) kX1_steps_20 rfl ?_
    refine AQ.if_eq (tgt := 40) eX1_steps_21 (by decide) (by first | assumption | exact ⟨by omega, by omega⟩) (fun br8 => ?_) (fun br8 => ?_)
    · skip
      refine q_blk (lv2 := [(2, vi p), (3, vi q), (4, vi i)]) (st2 := [vi p]) kX1_steps_40 rfl ?_
      exact q_ri rfl eX1_steps_41 ⟨p, rfl, (by have hq : q = 0 := (by omega); subst hq; rw [← hg]; simp; omega), rfl⟩
    · skip
      refine q_blk (lv2 := [(2, vi p), (3, vi q), (4, vi i)]) (st2 := [vi q, vi p]) kX1_steps_24 rfl ?_
      refine AQ.of (AS.irem eX1_steps_26 (by first | assumption | exact ⟨by omega, by omega⟩) (by first | assumption | exact ⟨by omega, by omega⟩) (by omega)) ?_
      have t1 := gm_tm p0 (show 0 < q by omega)
      refine q_blk (lv2 := [(2, vi q), (3, vi (Int.tmod p q)), (4, vi (i + 1)), (5, vi (Int.tmod p q))]) (st2 := []) kX1_steps_27 rfl ?_
      refine q_goto (tgt := 13) eX1_steps_37 (by decide) ?_
      refine q_sub (lv2 := [(2, vi q), (3, vi (Int.tmod p q)), (4, vi (i + 1))]) [0, 1, 2] rfl ?_
      exact ih5 q (Int.tmod p q) (i + 1) (⟨⟨by omega, by omega⟩, ⟨by omega, by omega, by omega⟩, (gm_gcd_step p0 (by omega)).trans hg⟩) (by omega)

set_option maxHeartbeats 1000000 in
theorem c_X7_xAt {w : am_w} {h : AH} {a : Nat} {n cl ow : Int} {xs ys : Int → Int} (hS : SX h a n cl ow xs ys) {k : Int} (h0 : 0 ≤ k) (h1 : k < n) : AE w m_X7_xAt 1 [vr a, vi k] h (am_intp h (fun z => z = xs k)) := by
  refine AE.of wf_X7_xAt (Nat.le_of_ble_eq_true rfl) (am_ok_ip) ?_
  obtain ⟨fx, fy, hP, ⟨hn0, hn1⟩, hcl, hx⟩ := id hS
  refine q_blk (lv2 := [(0, vr a), (1, vi k)]) (st2 := [vi k]) kX7_xAt_0 rfl ?_
  refine AQ.of (AS.if_lt_f eX7_xAt_1 (by first | assumption | exact ⟨by omega, by omega⟩) (by omega) (by decide)) ?_
  refine q_blk (lv2 := [(0, vr a), (1, vi k)]) (st2 := [vr a, vi k]) kX7_xAt_4 rfl ?_
  refine q_gr eX7_xAt_6 fl_RX7_9 (Or.inr ⟨_, rfl⟩) hP.1 rfl ?_
  refine q_al eX7_xAt_9 hP.2.1 (by decide) ?_
  refine AQ.of (AS.ic_ge_f eX7_xAt_10 (by first | assumption | exact ⟨by omega, by omega⟩) ⟨by decide, by decide⟩ (by omega) (by decide)) ?_
  refine q_blk (lv2 := [(0, vr a), (1, vi k)]) (st2 := [vr a]) kX7_xAt_13 rfl ?_
  refine q_gr eX7_xAt_14 fl_RX7_9 (Or.inr ⟨_, rfl⟩) hP.1 rfl ?_
  refine q_blk (lv2 := [(0, vr a), (1, vi k)]) (st2 := [vi k, vr (a + 1)]) kX7_xAt_17 rfl ?_
  refine q_ia eX7_xAt_18 hP.2.1 (by decide) (by omega) (by omega) (z := (fx k)) rfl ?_
  refine q_goto (tgt := 23) eX7_xAt_19 (by decide) ?_
  exact q_ri rfl eX7_xAt_23 ⟨(fx k), rfl, (hx k h0 h1).1, rfl⟩

set_option maxHeartbeats 1000000 in
theorem c_X7_yAt {w : am_w} {h : AH} {a : Nat} {n cl ow : Int} {xs ys : Int → Int} (hS : SX h a n cl ow xs ys) {k : Int} (h0 : 0 ≤ k) (h1 : k < n) : AE w m_X7_yAt 1 [vr a, vi k] h (am_intp h (fun z => z = ys k)) := by
  refine AE.of wf_X7_yAt (Nat.le_of_ble_eq_true rfl) (am_ok_ip) ?_
  obtain ⟨fx, fy, hP, ⟨hn0, hn1⟩, hcl, hx⟩ := id hS
  refine q_blk (lv2 := [(0, vr a), (1, vi k)]) (st2 := [vi k]) kX7_yAt_0 rfl ?_
  refine AQ.of (AS.if_lt_f eX7_yAt_1 (by first | assumption | exact ⟨by omega, by omega⟩) (by omega) (by decide)) ?_
  refine q_blk (lv2 := [(0, vr a), (1, vi k)]) (st2 := [vr a, vi k]) kX7_yAt_4 rfl ?_
  refine q_gr eX7_yAt_6 fl_RX7_15 (Or.inr ⟨_, rfl⟩) hP.1 rfl ?_
  refine q_al eX7_yAt_9 hP.2.2 (by decide) ?_
  refine AQ.of (AS.ic_ge_f eX7_yAt_10 (by first | assumption | exact ⟨by omega, by omega⟩) ⟨by decide, by decide⟩ (by omega) (by decide)) ?_
  refine q_blk (lv2 := [(0, vr a), (1, vi k)]) (st2 := [vr a]) kX7_yAt_13 rfl ?_
  refine q_gr eX7_yAt_14 fl_RX7_15 (Or.inr ⟨_, rfl⟩) hP.1 rfl ?_
  refine q_blk (lv2 := [(0, vr a), (1, vi k)]) (st2 := [vi k, vr (a + 2)]) kX7_yAt_17 rfl ?_
  refine q_ia eX7_yAt_18 hP.2.2 (by decide) (by omega) (by omega) (z := (fy k)) rfl ?_
  refine q_goto (tgt := 23) eX7_yAt_19 (by decide) ?_
  exact q_ri rfl eX7_yAt_23 ⟨(fy k), rfl, (hx k h0 h1).2, rfl⟩

set_option maxHeartbeats 1000000 in
theorem c_X7_codeOfCorner {w : am_w} {h : AH} {a : Nat} {n cl ow : Int} {xs ys : Int → Int} (hS : SX h a n cl ow xs ys) {k : Int} (h0 : 0 ≤ k) (h1 : k < n) : AE w m_X7_codeOfCorner 2 [vr a, vi k] h (am_intp h (fun z => z = 100 * xs k + ys k)) := by
  refine AE.of wf_X7_codeOfCorner (Nat.le_of_ble_eq_true rfl) (am_ok_ip) ?_
  obtain ⟨fx, fy, hP, ⟨hn0, hn1⟩, hcl, hx⟩ := id hS
  refine q_blk (lv2 := [(0, vr a), (1, vi k)]) (st2 := [vi k, vr a, vi 100]) kX7_codeOfCorner_0 rfl ?_
  refine q_Vi (av := [vi k]) (st := [vi 100]) (c_X7_xAt hS (by omega) (by omega)) lk_RX7_39 (by decide) rfl rfl hS.ob ⟨_, rfl, rfl⟩ (Nat.le_of_ble_eq_true rfl) eX7_codeOfCorner_4 (fun z1 e2 => ?_)
  subst e2
  refine q_blk (lv2 := [(0, vr a), (1, vi k)]) (st2 := [vi k, vr a, vi (100 * (xs k))]) kX7_codeOfCorner_7 rfl ?_
  refine q_Vi (av := [vi k]) (st := [vi (100 * (xs k))]) (c_X7_yAt hS (by omega) (by omega)) lk_RX7_43 (by decide) rfl rfl hS.ob ⟨_, rfl, rfl⟩ (Nat.le_of_ble_eq_true rfl) eX7_codeOfCorner_10 (fun z3 e4 => ?_)
  subst e4
  refine q_blk (lv2 := [(0, vr a), (1, vi k)]) (st2 := [vi ((100 * (xs k)) + (ys k))]) kX7_codeOfCorner_13 rfl ?_
  exact q_ri rfl eX7_codeOfCorner_14 ⟨((100 * (xs k)) + (ys k)), rfl, rfl, rfl⟩

set_option maxHeartbeats 1000000 in
theorem c_X7_placeBehind {w : am_w} {h : AH} {a : Nat} {n cl ow : Int} {xs ys : Int → Int} (hS : SX h a n cl ow xs ys) {k : Int} (h0 : 0 ≤ k) (h1 : k < n) : AE w m_X7_placeBehind 1 [vr a, vi k] h (am_intp h (fun z => z = gm_nx n k ∧ 0 ≤ z ∧ z < n)) := by
  refine AE.of wf_X7_placeBehind (Nat.le_of_ble_eq_true rfl) (am_ok_ip) ?_
  obtain ⟨fx, fy, hP, ⟨hn0, hn1⟩, hcl, hx⟩ := id hS
  refine q_blk (lv2 := [(0, vr a), (1, vi k)]) (st2 := [vr a, vi (k + 1)]) kX7_placeBehind_0 rfl ?_
  refine q_gi eX7_placeBehind_4 fl_RX7_22 (Or.inl rfl) hP.1 (z := n) rfl ?_
  refine AQ.ic_ge (tgt := 16) eX7_placeBehind_7 (by decide) (by first | assumption | exact ⟨by omega, by omega⟩) (by first | assumption | exact ⟨by omega, by omega⟩) (fun br1 => ?_) (fun br1 => ?_)
  · skip
    refine q_blk (lv2 := [(0, vr a), (1, vi k)]) (st2 := [vi 0]) kX7_placeBehind_16 rfl ?_
    exact q_ri rfl eX7_placeBehind_17 ⟨0, rfl, ⟨by unfold gm_nx; split <;> omega, by omega, by omega⟩, rfl⟩
  · skip
    refine q_blk (lv2 := [(0, vr a), (1, vi k)]) (st2 := [vi (k + 1)]) kX7_placeBehind_10 rfl ?_
    refine q_goto (tgt := 17) eX7_placeBehind_13 (by decide) ?_
    exact q_ri rfl eX7_placeBehind_17 ⟨(k + 1), rfl, ⟨by unfold gm_nx; split <;> omega, by omega, by omega⟩, rfl⟩

set_option maxHeartbeats 1000000 in
theorem c_X7_placeBefore {w : am_w} {h : AH} {a : Nat} {n cl ow : Int} {xs ys : Int → Int} (hS : SX h a n cl ow xs ys) {k : Int} (h0 : 0 ≤ k) (h1 : k < n) : AE w m_X7_placeBefore 1 [vr a, vi k] h (am_intp h (fun z => z = gm_pv n k ∧ 0 ≤ z ∧ z < n)) := by
  refine AE.of wf_X7_placeBefore (Nat.le_of_ble_eq_true rfl) (am_ok_ip) ?_
  obtain ⟨fx, fy, hP, ⟨hn0, hn1⟩, hcl, hx⟩ := id hS
  refine q_blk (lv2 := [(0, vr a), (1, vi k)]) (st2 := [vi k]) kX7_placeBefore_0 rfl ?_
  refine AQ.if_le (tgt := 10) eX7_placeBefore_1 (by decide) (by first | assumption | exact ⟨by omega, by omega⟩) (fun br1 => ?_) (fun br1 => ?_)
  · skip
    refine q_blk (lv2 := [(0, vr a), (1, vi k)]) (st2 := [vr a]) kX7_placeBefore_10 rfl ?_
    refine q_gi eX7_placeBefore_11 fl_RX7_22 (Or.inl rfl) hP.1 (z := n) rfl ?_
    refine q_blk (lv2 := [(0, vr a), (1, vi k)]) (st2 := [vi (n - 1)]) kX7_placeBefore_14 rfl ?_
    exact q_ri rfl eX7_placeBefore_16 ⟨(n - 1), rfl, ⟨by unfold gm_pv; split <;> omega, by omega, by omega⟩, rfl⟩
  · skip
    refine q_blk (lv2 := [(0, vr a), (1, vi k)]) (st2 := [vi (k - 1)]) kX7_placeBefore_4 rfl ?_
    refine q_goto (tgt := 16) eX7_placeBefore_7 (by decide) ?_
    exact q_ri rfl eX7_placeBefore_16 ⟨(k - 1), rfl, ⟨by unfold gm_pv; split <;> omega, by omega, by omega⟩, rfl⟩

set_option maxHeartbeats 1000000 in
theorem c_X7_sideCount {w : am_w} {h : AH} {a : Nat} {n cl ow : Int} {xs ys : Int → Int} (hS : SX h a n cl ow xs ys)  : AE w m_X7_sideCount 1 [vr a] h (am_intp h (fun z => z = gm_ns n cl)) := by
  refine AE.of wf_X7_sideCount (Nat.le_of_ble_eq_true rfl) (am_ok_ip) ?_
  obtain ⟨fx, fy, hP, ⟨hn0, hn1⟩, hcl, hx⟩ := id hS
  have rcl : am_r cl := ⟨by omega, by omega⟩
  refine q_blk (lv2 := [(0, vr a)]) (st2 := [vr a]) kX7_sideCount_0 rfl ?_
  refine q_gi eX7_sideCount_1 fl_RX7_25 (Or.inr rfl) hP.1 (z := cl) rfl ?_
  refine AQ.if_eq (tgt := 14) eX7_sideCount_4 (by decide) (by first | assumption | exact ⟨by omega, by omega⟩) (fun br1 => ?_) (fun br1 => ?_)
  · skip
    refine q_blk (lv2 := [(0, vr a)]) (st2 := [vr a]) kX7_sideCount_14 rfl ?_
    refine q_gi eX7_sideCount_15 fl_RX7_22 (Or.inl rfl) hP.1 (z := n) rfl ?_
    refine q_blk (lv2 := [(0, vr a)]) (st2 := [vi (n - 1)]) kX7_sideCount_18 rfl ?_
    exact q_ri rfl eX7_sideCount_20 ⟨(n - 1), rfl, by unfold gm_ns; split <;> omega, rfl⟩
  · skip
    refine q_blk (lv2 := [(0, vr a)]) (st2 := [vr a]) kX7_sideCount_7 rfl ?_
    refine q_gi eX7_sideCount_8 fl_RX7_22 (Or.inl rfl) hP.1 (z := n) rfl ?_
    refine q_goto (tgt := 20) eX7_sideCount_11 (by decide) ?_
    exact q_ri rfl eX7_sideCount_20 ⟨n, rfl, by unfold gm_ns; split <;> omega, rfl⟩

set_option maxHeartbeats 1000000 in
theorem c_X7_hasCorner {w : am_w} {h : AH} {a : Nat} {n cl ow : Int} {xs ys : Int → Int} (hS : SX h a n cl ow xs ys) (hV : VC n xs ys) {x y : Int} (h_x : am_r x) (h_y : am_r y) : AE w m_X7_hasCorner 2 [vr a, vi x, vi y] h (am_intp h (fun z => am_b z (gm_hc n xs ys x y))) := by
  refine AE.of wf_X7_hasCorner (Nat.le_of_ble_eq_true rfl) (am_ok_zp (fun z q => am_bz q)) ?_
  obtain ⟨fx, fy, hP, ⟨hn0, hn1⟩, hcl, hx⟩ := id hS
  refine q_blk (lv2 := [(0, vr a), (1, vi x), (2, vi y), (3, vi 0)]) (st2 := []) kX7_hasCorner_0 rfl ?_
  refine am_lp1 (I := fun (i : Int) => (0 ≤ i ∧ i ≤ n) ∧ ∀ k, 0 ≤ k → k < i → ¬ (xs k = x ∧ ys k = y)) (μ := fun (i : Int) => (n - i).toNat) (G := fun (i : Int) => AQ w m_X7_hasCorner 2 2 [(0, vr a), (1, vi x), (2, vi y), (3, vi i)] [] h (am_intp h (fun z => am_b z (gm_hc n xs ys x y)))) ?_ 0 (⟨⟨by omega, by omega⟩, fun k h0 h1 => by omega⟩)
  intro i hI2 ih1
  obtain ⟨⟨i0, i1⟩, hno⟩ := hI2
  refine q_blk (lv2 := [(0, vr a), (1, vi x), (2, vi y), (3, vi i)]) (st2 := [vr a, vi i]) kX7_hasCorner_2 rfl ?_
  refine q_gi eX7_hasCorner_4 fl_RX7_22 (Or.inl rfl) hP.1 (z := n) rfl ?_
  refine AQ.ic_ge (tgt := 36) eX7_hasCorner_7 (by decide) (by first | assumption | exact ⟨by omega, by omega⟩) (by first | assumption | exact ⟨by omega, by omega⟩) (fun br3 => ?_) (fun br3 => ?_)
  · skip
    refine q_blk (lv2 := [(0, vr a), (1, vi x), (2, vi y), (3, vi i)]) (st2 := [vi 0]) kX7_hasCorner_36 rfl ?_
    exact q_rz rfl eX7_hasCorner_37 (by decide) ⟨0, rfl, Or.inr ⟨rfl, fun ⟨k, k0, k1, k2⟩ => hno k k0 (by omega) k2⟩, rfl⟩
  · skip
    have v1 := hV i (by omega) (by omega)
    have v2 := v1.1
    have v3 := v1.2
    unfold am_c at v2 v3
    refine q_blk (lv2 := [(0, vr a), (1, vi x), (2, vi y), (3, vi i)]) (st2 := [vi i, vr a]) kX7_hasCorner_10 rfl ?_
    refine q_Vi (av := [vi i]) (st := []) (c_X7_xAt hS (by omega) (by omega)) lk_RX7_39 (by decide) rfl rfl hS.ob ⟨_, rfl, rfl⟩ (Nat.le_of_ble_eq_true rfl) eX7_hasCorner_12 (fun z4 e5 => ?_)
    subst e5
    refine q_blk (lv2 := [(0, vr a), (1, vi x), (2, vi y), (3, vi i)]) (st2 := [vi x, vi (xs i)]) kX7_hasCorner_15 rfl ?_
    refine AQ.ic_ne (tgt := 30) eX7_hasCorner_16 (by decide) (by first | assumption | exact ⟨by omega, by omega⟩) (by first | assumption | exact ⟨by omega, by omega⟩) (fun br6 => ?_) (fun br6 => ?_)
    · skip
      refine q_blk (lv2 := [(0, vr a), (1, vi x), (2, vi y), (3, vi (i + 1))]) (st2 := []) kX7_hasCorner_30 rfl ?_
      refine q_goto (tgt := 2) eX7_hasCorner_33 (by decide) ?_
      exact ih1 (i + 1) (⟨⟨by omega, by omega⟩, fun k k0 k1 => by
      by_cases e : k = i
      · subst e; omega
      · exact hno k k0 (by omega)⟩) (by omega)
    · skip
      refine q_blk (lv2 := [(0, vr a), (1, vi x), (2, vi y), (3, vi i)]) (st2 := [vi i, vr a]) kX7_hasCorner_19 rfl ?_
      refine q_Vi (av := [vi i]) (st := []) (c_X7_yAt hS (by omega) (by omega)) lk_RX7_43 (by decide) rfl rfl hS.ob ⟨_, rfl, rfl⟩ (Nat.le_of_ble_eq_true rfl) eX7_hasCorner_21 (fun z7 e8 => ?_)
      subst e8
      refine q_blk (lv2 := [(0, vr a), (1, vi x), (2, vi y), (3, vi i)]) (st2 := [vi y, vi (ys i)]) kX7_hasCorner_24 rfl ?_
      refine AQ.ic_ne (tgt := 30) eX7_hasCorner_25 (by decide) (by first | assumption | exact ⟨by omega, by omega⟩) (by first | assumption | exact ⟨by omega, by omega⟩) (fun br9 => ?_) (fun br9 => ?_)
      · skip
        refine q_blk (lv2 := [(0, vr a), (1, vi x), (2, vi y), (3, vi (i + 1))]) (st2 := []) kX7_hasCorner_30 rfl ?_
        refine q_goto (tgt := 2) eX7_hasCorner_33 (by decide) ?_
        exact ih1 (i + 1) (⟨⟨by omega, by omega⟩, fun k k0 k1 => by
      by_cases e : k = i
      · subst e; omega
      · exact hno k k0 (by omega)⟩) (by omega)
      · skip
        refine q_blk (lv2 := [(0, vr a), (1, vi x), (2, vi y), (3, vi i)]) (st2 := [vi 1]) kX7_hasCorner_28 rfl ?_
        exact q_rz rfl eX7_hasCorner_29 (by decide) ⟨1, rfl, Or.inl ⟨rfl, i, by omega, by omega, by omega, by omega⟩, rfl⟩

set_option maxHeartbeats 1000000 in
theorem c_X7_hasOnSide {w : am_w} {h : AH} {a : Nat} {n cl ow : Int} {xs ys : Int → Int} (hS : SX h a n cl ow xs ys) (hV : VC n xs ys) {x y : Int} (h_x : am_c x) (h_y : am_c y) : AE w m_X7_hasOnSide 2 [vr a, vi x, vi y] h (am_intp h (fun z => am_b z (gm_os (gm_ns n cl) n xs ys x y))) := by
  refine AE.of wf_X7_hasOnSide (Nat.le_of_ble_eq_true rfl) (am_ok_zp (fun z q => am_bz q)) ?_
  obtain ⟨fx, fy, hP, ⟨hn0, hn1⟩, hcl, hx⟩ := id hS
  have hs : -1 ≤ gm_ns n cl ∧ gm_ns n cl ≤ n := by unfold gm_ns; split <;> omega
  refine q_blk (lv2 := [(0, vr a), (1, vi x), (2, vi y), (3, vi 0)]) (st2 := []) kX7_hasOnSide_0 rfl ?_
  refine am_lp1 (I := fun (i : Int) => (0 ≤ i ∧ i ≤ n + 1) ∧ ∀ k, 0 ≤ k → k < i → ¬ gm_sd n xs ys x y k) (μ := fun (i : Int) => (n + 1 - i).toNat) (G := fun (i : Int) => AQ w m_X7_hasOnSide 2 2 [(0, vr a), (1, vi x), (2, vi y), (3, vi i)] [] h (am_intp h (fun z => am_b z (gm_os (gm_ns n cl) n xs ys x y)))) ?_ 0 (⟨⟨by omega, by omega⟩, fun k h0 h1 => by omega⟩)
  intro i hI2 ih1
  obtain ⟨⟨i0, i1⟩, hno⟩ := hI2
  refine q_blk (lv2 := [(0, vr a), (1, vi x), (2, vi y), (3, vi i)]) (st2 := [vr a, vi i]) kX7_hasOnSide_2 rfl ?_
  refine q_Vi (av := []) (st := [vi i]) (c_X7_sideCount hS) lk_RX7_46 (by decide) rfl rfl hS.ob ⟨_, rfl, rfl⟩ (Nat.le_of_ble_eq_true rfl) eX7_hasOnSide_4 (fun z3 e4 => ?_)
  refine AQ.ic_ge (tgt := 55) eX7_hasOnSide_7 (by decide) (by first | assumption | exact ⟨by omega, by omega⟩) (by first | assumption | exact ⟨by omega, by omega⟩) (fun br5 => ?_) (fun br5 => ?_)
  · skip
    refine q_blk (lv2 := [(0, vr a), (1, vi x), (2, vi y), (3, vi i)]) (st2 := [vi 0]) kX7_hasOnSide_55 rfl ?_
    exact q_rz rfl eX7_hasOnSide_56 (by decide) ⟨0, rfl, Or.inr ⟨rfl, fun ⟨k, k0, k1, k2⟩ => hno k k0 (by omega) k2⟩, rfl⟩
  · skip
    refine q_blk (lv2 := [(0, vr a), (1, vi x), (2, vi y), (3, vi i)]) (st2 := [vi i, vr a]) kX7_hasOnSide_10 rfl ?_
    refine q_Vi (av := [vi i]) (st := []) (c_X7_placeBehind hS (by omega) (by omega)) lk_RX7_50 (by decide) rfl rfl hS.ob ⟨_, rfl, rfl⟩ (Nat.le_of_ble_eq_true rfl) eX7_hasOnSide_12 (fun z6 e7 => ?_)
    obtain ⟨e7, e7a, e7b⟩ := e7
    refine q_blk (lv2 := [(0, vr a), (1, vi x), (2, vi y), (3, vi i), (4, vi z6)]) (st2 := [vi i, vr a]) kX7_hasOnSide_15 rfl ?_
    refine q_Vi (av := [vi i]) (st := []) (c_X7_xAt hS (by omega) (by omega)) lk_RX7_39 (by decide) rfl rfl hS.ob ⟨_, rfl, rfl⟩ (Nat.le_of_ble_eq_true rfl) eX7_hasOnSide_19 (fun z8 e9 => ?_)
    subst e9
    refine q_blk (lv2 := [(0, vr a), (1, vi x), (2, vi y), (3, vi i), (4, vi z6)]) (st2 := [vi i, vr a, vi (xs i)]) kX7_hasOnSide_22 rfl ?_
    refine q_Vi (av := [vi i]) (st := [vi (xs i)]) (c_X7_yAt hS (by omega) (by omega)) lk_RX7_43 (by decide) rfl rfl hS.ob ⟨_, rfl, rfl⟩ (Nat.le_of_ble_eq_true rfl) eX7_hasOnSide_24 (fun z10 e11 => ?_)
    subst e11
    refine q_blk (lv2 := [(0, vr a), (1, vi x), (2, vi y), (3, vi i), (4, vi z6)]) (st2 := [vi z6, vr a, vi (ys i), vi (xs i)]) kX7_hasOnSide_27 rfl ?_
    refine q_Vi (av := [vi z6]) (st := [vi (ys i), vi (xs i)]) (c_X7_xAt hS (by omega) (by omega)) lk_RX7_39 (by decide) rfl rfl hS.ob ⟨_, rfl, rfl⟩ (Nat.le_of_ble_eq_true rfl) eX7_hasOnSide_30 (fun z12 e13 => ?_)
    subst e13
    refine q_blk (lv2 := [(0, vr a), (1, vi x), (2, vi y), (3, vi i), (4, vi z6)]) (st2 := [vi z6, vr a, vi (xs z6), vi (ys i), vi (xs i)]) kX7_hasOnSide_33 rfl ?_
    refine q_Vi (av := [vi z6]) (st := [vi (xs z6), vi (ys i), vi (xs i)]) (c_X7_yAt hS (by omega) (by omega)) lk_RX7_43 (by decide) rfl rfl hS.ob ⟨_, rfl, rfl⟩ (Nat.le_of_ble_eq_true rfl) eX7_hasOnSide_36 (fun z14 e15 => ?_)
    subst e15
    refine q_blk (lv2 := [(0, vr a), (1, vi x), (2, vi y), (3, vi i), (4, vi z6)]) (st2 := [vi y, vi x, vi (ys z6), vi (xs z6), vi (ys i), vi (xs i)]) kX7_hasOnSide_39 rfl ?_
    refine q_Si (av := [vi (xs i), vi (ys i), vi (xs z6), vi (ys z6), vi x, vi y]) (st := []) (c_X1_isOnSegment (hV i (by omega) (by omega)).1 (hV i (by omega) (by omega)).2 (hV z6 (by omega) (by omega)).1 (hV z6 (by omega) (by omega)).2 h_x h_y) lk_RX7_53 (by decide) rfl rfl (Nat.le_of_ble_eq_true rfl) eX7_hasOnSide_41 (fun z16 e17 => ?_)
    rcases e17 with ⟨rfl, e17⟩ | ⟨rfl, e17⟩
    · skip
      refine AQ.of (AS.if_eq_f eX7_hasOnSide_44 ⟨by decide, by decide⟩ (by decide) (by decide)) ?_
      refine q_blk (lv2 := [(0, vr a), (1, vi x), (2, vi y), (3, vi i), (4, vi z6)]) (st2 := [vi 1]) kX7_hasOnSide_47 rfl ?_
      exact q_rz rfl eX7_hasOnSide_48 (by decide) ⟨1, rfl, Or.inl ⟨rfl, i, by omega, by omega, by unfold gm_sd; rw [← e7]; assumption⟩, rfl⟩
    · skip
      refine AQ.of (AS.if_eq_t (tgt := 49) eX7_hasOnSide_44 (by decide) ⟨by decide, by decide⟩ (by decide)) ?_
      refine q_blk (lv2 := [(0, vr a), (1, vi x), (2, vi y), (3, vi (i + 1)), (4, vi z6)]) (st2 := []) kX7_hasOnSide_49 rfl ?_
      refine q_goto (tgt := 2) eX7_hasOnSide_52 (by decide) ?_
      refine q_sub (lv2 := [(0, vr a), (1, vi x), (2, vi y), (3, vi (i + 1))]) [0, 1, 2, 3] rfl ?_
      exact ih1 (i + 1) (⟨⟨by omega, by omega⟩, fun k k0 k1 => by
      by_cases e : k = i
      · subst e; unfold gm_sd; rw [← e7]; assumption
      · exact hno k k0 (by omega)⟩) (by omega)

set_option maxHeartbeats 1000000 in
theorem c_X7_turnedArea {w : am_w} {h : AH} {a : Nat} {n cl ow : Int} {xs ys : Int → Int} (hS : SX h a n cl ow xs ys) (hV : VC n xs ys)  : AE w m_X7_turnedArea 2 [vr a] h (am_intp h (fun z => z = gm_ar n xs ys)) := by
  refine AE.of wf_X7_turnedArea (Nat.le_of_ble_eq_true rfl) (am_ok_ip) ?_
  obtain ⟨fx, fy, hP, ⟨hn0, hn1⟩, hcl, hx⟩ := id hS
  refine q_blk (lv2 := [(0, vr a), (1, vi 0), (2, vi 0)]) (st2 := []) kX7_turnedArea_0 rfl ?_
  refine am_lp2 (I := fun (s : Int) (i : Int) => (0 ≤ i ∧ i ≤ n) ∧ s = gm_sm (gm_cr2 n xs ys) i.toNat) (μ := fun (s : Int) (i : Int) => (n - i).toNat) (G := fun (s : Int) (i : Int) => AQ w m_X7_turnedArea 2 4 [(0, vr a), (1, vi s), (2, vi i)] [] h (am_intp h (fun z => z = gm_ar n xs ys))) ?_ 0 0 (⟨⟨by omega, by omega⟩, rfl⟩)
  intro s i hI2 ih1
  obtain ⟨⟨i0, i1⟩, hs⟩ := hI2
  refine q_blk (lv2 := [(0, vr a), (1, vi s), (2, vi i)]) (st2 := [vr a, vi i]) kX7_turnedArea_4 rfl ?_
  refine q_gi eX7_turnedArea_6 fl_RX7_22 (Or.inl rfl) hP.1 (z := n) rfl ?_
  refine AQ.ic_ge (tgt := 50) eX7_turnedArea_9 (by decide) (by first | assumption | exact ⟨by omega, by omega⟩) (by first | assumption | exact ⟨by omega, by omega⟩) (fun br3 => ?_) (fun br3 => ?_)
  · skip
    refine q_blk (lv2 := [(0, vr a), (1, vi s), (2, vi i)]) (st2 := [vi s]) kX7_turnedArea_50 rfl ?_
    exact q_ri rfl eX7_turnedArea_51 ⟨s, rfl, (by obtain rfl : i = n := (by omega); exact hs), rfl⟩
  · skip
    refine q_blk (lv2 := [(0, vr a), (1, vi s), (2, vi i)]) (st2 := [vi i, vr a]) kX7_turnedArea_12 rfl ?_
    refine q_Vi (av := [vi i]) (st := []) (c_X7_placeBehind hS (by omega) (by omega)) lk_RX7_50 (by decide) rfl rfl hS.ob ⟨_, rfl, rfl⟩ (Nat.le_of_ble_eq_true rfl) eX7_turnedArea_14 (fun z4 e5 => ?_)
    obtain ⟨e5, e5a, e5b⟩ := e5
    refine q_blk (lv2 := [(0, vr a), (1, vi s), (2, vi i), (3, vi z4)]) (st2 := [vi i, vr a, vi s]) kX7_turnedArea_17 rfl ?_
    refine q_Vi (av := [vi i]) (st := [vi s]) (c_X7_xAt hS (by omega) (by omega)) lk_RX7_39 (by decide) rfl rfl hS.ob ⟨_, rfl, rfl⟩ (Nat.le_of_ble_eq_true rfl) eX7_turnedArea_21 (fun z6 e7 => ?_)
    subst e7
    refine q_blk (lv2 := [(0, vr a), (1, vi s), (2, vi i), (3, vi z4)]) (st2 := [vi z4, vr a, vi (xs i), vi s]) kX7_turnedArea_24 rfl ?_
    refine q_Vi (av := [vi z4]) (st := [vi (xs i), vi s]) (c_X7_yAt hS (by omega) (by omega)) lk_RX7_43 (by decide) rfl rfl hS.ob ⟨_, rfl, rfl⟩ (Nat.le_of_ble_eq_true rfl) eX7_turnedArea_26 (fun z8 e9 => ?_)
    subst e9
    refine q_blk (lv2 := [(0, vr a), (1, vi s), (2, vi i), (3, vi z4)]) (st2 := [vi z4, vr a, vi ((xs i) * (ys z4)), vi s]) kX7_turnedArea_29 rfl ?_
    refine q_Vi (av := [vi z4]) (st := [vi ((xs i) * (ys z4)), vi s]) (c_X7_xAt hS (by omega) (by omega)) lk_RX7_39 (by decide) rfl rfl hS.ob ⟨_, rfl, rfl⟩ (Nat.le_of_ble_eq_true rfl) eX7_turnedArea_32 (fun z10 e11 => ?_)
    subst e11
    refine q_blk (lv2 := [(0, vr a), (1, vi s), (2, vi i), (3, vi z4)]) (st2 := [vi i, vr a, vi (xs z4), vi ((xs i) * (ys z4)), vi s]) kX7_turnedArea_35 rfl ?_
    refine q_Vi (av := [vi i]) (st := [vi (xs z4), vi ((xs i) * (ys z4)), vi s]) (c_X7_yAt hS (by omega) (by omega)) lk_RX7_43 (by decide) rfl rfl hS.ob ⟨_, rfl, rfl⟩ (Nat.le_of_ble_eq_true rfl) eX7_turnedArea_37 (fun z12 e13 => ?_)
    subst e13
    refine q_blk (lv2 := [(0, vr a), (1, vi (s + (((xs i) * (ys z4)) - ((xs z4) * (ys i))))), (2, vi (i + 1)), (3, vi z4)]) (st2 := []) kX7_turnedArea_40 rfl ?_
    refine q_goto (tgt := 4) eX7_turnedArea_47 (by decide) ?_
    refine q_sub (lv2 := [(0, vr a), (1, vi (s + (((xs i) * (ys z4)) - ((xs z4) * (ys i))))), (2, vi (i + 1))]) [0, 1, 2] rfl ?_
    exact ih1 (s + (((xs i) * (ys z4)) - ((xs z4) * (ys i)))) (i + 1) (⟨⟨by omega, by omega⟩, by rw [gm_sm_s _ i0, ← hs]; unfold gm_cr2; rw [← e5]⟩) (by omega)

set_option maxHeartbeats 1000000 in
theorem c_X7_doubledArea {w : am_w} {h : AH} {a : Nat} {n cl ow : Int} {xs ys : Int → Int} (hS : SX h a n cl ow xs ys) (hV : VC n xs ys)  : AE w m_X7_doubledArea 3 [vr a] h (am_intp h (fun z => z = gm_abs (gm_ar n xs ys))) := by
  refine AE.of wf_X7_doubledArea (Nat.le_of_ble_eq_true rfl) (am_ok_ip) ?_
  obtain ⟨fx, fy, hP, ⟨hn0, hn1⟩, hcl, hx⟩ := id hS
  have hr := gm_ar_r hV hn0 hn1
  refine q_blk (lv2 := [(0, vr a)]) (st2 := [vr a]) kX7_doubledArea_0 rfl ?_
  refine q_Vi (av := []) (st := []) (c_X7_turnedArea hS hV) lk_RX7_59 (by decide) rfl rfl hS.ob ⟨_, rfl, rfl⟩ (Nat.le_of_ble_eq_true rfl) eX7_doubledArea_1 (fun z1 e2 => ?_)
  subst e2
  refine AQ.of (AS.mabs eX7_doubledArea_4 (by first | assumption | exact ⟨by omega, by omega⟩) (am_gw 371 (by decide +kernel) (by decide +kernel)) (am_gw 372 (by decide +kernel) (by decide +kernel)) (am_gw 53 (by decide +kernel) (by decide +kernel)) (am_gw 373 (by decide +kernel) (by decide +kernel)) (by decide) (Nat.le_of_ble_eq_true rfl)) ?_
  obtain ⟨z3, e4⟩ : ∃ q : Int, q = (if 0 ≤ (gm_ar n xs ys) then (gm_ar n xs ys) else -(gm_ar n xs ys)) := ⟨_, rfl⟩
  rw [← e4]
  exact q_ri rfl eX7_doubledArea_7 ⟨z3, rfl, e4, rfl⟩

set_option maxHeartbeats 1000000 in
theorem c_X7_borderPoints {w : am_w} {h : AH} {a : Nat} {n cl ow : Int} {xs ys : Int → Int} (hS : SX h a n cl ow xs ys) (hV : VC n xs ys)  : AE w m_X7_borderPoints 3 [vr a] h (am_intp h (fun z => z = gm_bo n xs ys)) := by
  refine AE.of wf_X7_borderPoints (Nat.le_of_ble_eq_true rfl) (am_ok_ip) ?_
  obtain ⟨fx, fy, hP, ⟨hn0, hn1⟩, hcl, hx⟩ := id hS
  refine q_blk (lv2 := [(0, vr a), (1, vi 0), (2, vi 0)]) (st2 := []) kX7_borderPoints_0 rfl ?_
  refine am_lp2 (I := fun (s : Int) (i : Int) => (0 ≤ i ∧ i ≤ n) ∧ s = gm_sm (gm_st n xs ys) i.toNat) (μ := fun (s : Int) (i : Int) => (n - i).toNat) (G := fun (s : Int) (i : Int) => AQ w m_X7_borderPoints 3 4 [(0, vr a), (1, vi s), (2, vi i)] [] h (am_intp h (fun z => z = gm_bo n xs ys))) ?_ 0 0 (⟨⟨by omega, by omega⟩, rfl⟩)
  intro s i hI2 ih1
  obtain ⟨⟨i0, i1⟩, hs⟩ := hI2
  refine q_blk (lv2 := [(0, vr a), (1, vi s), (2, vi i)]) (st2 := [vr a, vi i]) kX7_borderPoints_4 rfl ?_
  refine q_gi eX7_borderPoints_6 fl_RX7_22 (Or.inl rfl) hP.1 (z := n) rfl ?_
  refine AQ.ic_ge (tgt := 52) eX7_borderPoints_9 (by decide) (by first | assumption | exact ⟨by omega, by omega⟩) (by first | assumption | exact ⟨by omega, by omega⟩) (fun br3 => ?_) (fun br3 => ?_)
  · skip
    refine q_blk (lv2 := [(0, vr a), (1, vi s), (2, vi i)]) (st2 := [vi s]) kX7_borderPoints_52 rfl ?_
    exact q_ri rfl eX7_borderPoints_53 ⟨s, rfl, (by obtain rfl : i = n := (by omega); exact hs), rfl⟩
  · skip
    refine q_blk (lv2 := [(0, vr a), (1, vi s), (2, vi i)]) (st2 := [vi i, vr a]) kX7_borderPoints_12 rfl ?_
    refine q_Vi (av := [vi i]) (st := []) (c_X7_placeBehind hS (by omega) (by omega)) lk_RX7_50 (by decide) rfl rfl hS.ob ⟨_, rfl, rfl⟩ (Nat.le_of_ble_eq_true rfl) eX7_borderPoints_14 (fun z4 e5 => ?_)
    obtain ⟨e5, e5a, e5b⟩ := e5
    have v1 := hV i (by omega) (by omega)
    have v2 := hV z4 (by omega) (by omega)
    have v3 := am_c30 v2.1 v1.1
    have v4 := am_c30 v2.2 v1.2
    refine q_blk (lv2 := [(0, vr a), (1, vi s), (2, vi i), (3, vi z4)]) (st2 := [vi z4, vr a, vi s]) kX7_borderPoints_17 rfl ?_
    refine q_Vi (av := [vi z4]) (st := [vi s]) (c_X7_xAt hS (by omega) (by omega)) lk_RX7_39 (by decide) rfl rfl hS.ob ⟨_, rfl, rfl⟩ (Nat.le_of_ble_eq_true rfl) eX7_borderPoints_21 (fun z6 e7 => ?_)
    subst e7
    refine q_blk (lv2 := [(0, vr a), (1, vi s), (2, vi i), (3, vi z4)]) (st2 := [vi i, vr a, vi (xs z4), vi s]) kX7_borderPoints_24 rfl ?_
    refine q_Vi (av := [vi i]) (st := [vi (xs z4), vi s]) (c_X7_xAt hS (by omega) (by omega)) lk_RX7_39 (by decide) rfl rfl hS.ob ⟨_, rfl, rfl⟩ (Nat.le_of_ble_eq_true rfl) eX7_borderPoints_26 (fun z8 e9 => ?_)
    subst e9
    refine q_blk (lv2 := [(0, vr a), (1, vi s), (2, vi i), (3, vi z4)]) (st2 := [vi z4, vr a, vi ((xs z4) - (xs i)), vi s]) kX7_borderPoints_29 rfl ?_
    refine q_Vi (av := [vi z4]) (st := [vi ((xs z4) - (xs i)), vi s]) (c_X7_yAt hS (by omega) (by omega)) lk_RX7_43 (by decide) rfl rfl hS.ob ⟨_, rfl, rfl⟩ (Nat.le_of_ble_eq_true rfl) eX7_borderPoints_32 (fun z10 e11 => ?_)
    subst e11
    refine q_blk (lv2 := [(0, vr a), (1, vi s), (2, vi i), (3, vi z4)]) (st2 := [vi i, vr a, vi (ys z4), vi ((xs z4) - (xs i)), vi s]) kX7_borderPoints_35 rfl ?_
    refine q_Vi (av := [vi i]) (st := [vi (ys z4), vi ((xs z4) - (xs i)), vi s]) (c_X7_yAt hS (by omega) (by omega)) lk_RX7_43 (by decide) rfl rfl hS.ob ⟨_, rfl, rfl⟩ (Nat.le_of_ble_eq_true rfl) eX7_borderPoints_37 (fun z12 e13 => ?_)
    subst e13
    refine q_blk (lv2 := [(0, vr a), (1, vi s), (2, vi i), (3, vi z4)]) (st2 := [vi ((ys z4) - (ys i)), vi ((xs z4) - (xs i)), vi s]) kX7_borderPoints_40 rfl ?_
    refine q_Si (av := [vi ((xs z4) - (xs i)), vi ((ys z4) - (ys i))]) (st := [vi s]) (c_X1_steps (by omega) (by omega) (by omega) (by omega)) lk_RX7_67 (by decide) rfl rfl (Nat.le_of_ble_eq_true rfl) eX7_borderPoints_41 (fun z14 e15 => ?_)
    refine q_blk (lv2 := [(0, vr a), (1, vi (s + z14)), (2, vi (i + 1)), (3, vi z4)]) (st2 := []) kX7_borderPoints_44 rfl ?_
    refine q_goto (tgt := 4) eX7_borderPoints_49 (by decide) ?_
    refine q_sub (lv2 := [(0, vr a), (1, vi (s + z14)), (2, vi (i + 1))]) [0, 1, 2] rfl ?_
    exact ih1 (s + z14) (i + 1) (⟨⟨by omega, by omega⟩, by rw [gm_sm_s _ i0, ← hs]; unfold gm_st; rw [← e5, ← e15]⟩) (by omega)

set_option maxHeartbeats 1000000 in
theorem c_X7_innerPoints {w : am_w} {h : AH} {a : Nat} {n cl ow : Int} {xs ys : Int → Int} (hS : SX h a n cl ow xs ys) (hV : VC n xs ys)  : AE w m_X7_innerPoints 4 [vr a] h (am_intp h (fun z => z = Int.tdiv (gm_abs (gm_ar n xs ys) - gm_bo n xs ys + 2) 2)) := by
  refine AE.of wf_X7_innerPoints (Nat.le_of_ble_eq_true rfl) (am_ok_ip) ?_
  obtain ⟨fx, fy, hP, ⟨hn0, hn1⟩, hcl, hx⟩ := id hS
  have hr := gm_ar_r hV hn0 hn1
  have hr2 := gm_bo_r hV hn0 hn1
  have hr3 := gm_abs_r hr
  refine q_blk (lv2 := [(0, vr a)]) (st2 := [vr a]) kX7_innerPoints_0 rfl ?_
  refine q_Vi (av := []) (st := []) (c_X7_doubledArea hS hV) lk_RX7_71 (by decide) rfl rfl hS.ob ⟨_, rfl, rfl⟩ (Nat.le_of_ble_eq_true rfl) eX7_innerPoints_1 (fun z1 e2 => ?_)
  subst e2
  refine q_blk (lv2 := [(0, vr a)]) (st2 := [vr a, vi (gm_abs (gm_ar n xs ys))]) kX7_innerPoints_4 rfl ?_
  refine q_Vi (av := []) (st := [vi (gm_abs (gm_ar n xs ys))]) (c_X7_borderPoints hS hV) lk_RX7_74 (by decide) rfl rfl hS.ob ⟨_, rfl, rfl⟩ (Nat.le_of_ble_eq_true rfl) eX7_innerPoints_5 (fun z3 e4 => ?_)
  subst e4
  refine q_blk (lv2 := [(0, vr a)]) (st2 := [vi 2, vi (((gm_abs (gm_ar n xs ys)) - (gm_bo n xs ys)) + 2)]) kX7_innerPoints_8 rfl ?_
  refine AQ.of (AS.idiv eX7_innerPoints_12 (by first | assumption | exact ⟨by omega, by omega⟩) ⟨by decide, by decide⟩ (by omega)) ?_
  exact q_ri rfl eX7_innerPoints_13 ⟨(Int.tdiv (((gm_abs (gm_ar n xs ys)) - (gm_bo n xs ys)) + 2) 2), rfl, rfl, rfl⟩

set_option maxHeartbeats 1000000 in
theorem c_X7_dentCount {w : am_w} {h : AH} {a : Nat} {n cl ow : Int} {xs ys : Int → Int} (hS : SX h a n cl ow xs ys) (hV : VC n xs ys)  : AE w m_X7_dentCount 3 [vr a] h (am_intp h (fun z => z = gm_de n xs ys)) := by
  refine AE.of wf_X7_dentCount (Nat.le_of_ble_eq_true rfl) (am_ok_ip) ?_
  obtain ⟨fx, fy, hP, ⟨hn0, hn1⟩, hcl, hx⟩ := id hS
  have hr := gm_ar_r hV hn0 hn1
  refine q_blk (lv2 := [(0, vr a)]) (st2 := [vr a]) kX7_dentCount_0 rfl ?_
  refine q_Vi (av := []) (st := []) (c_X7_turnedArea hS hV) lk_RX7_59 (by decide) rfl rfl hS.ob ⟨_, rfl, rfl⟩ (Nat.le_of_ble_eq_true rfl) eX7_dentCount_1 (fun z1 e2 => ?_)
  subst e2
  refine AQ.if_le (tgt := 11) eX7_dentCount_4 (by decide) (by first | assumption | exact ⟨by omega, by omega⟩) (fun br3 => ?_) (fun br3 => ?_)
  · skip
    refine q_blk (lv2 := [(0, vr a)]) (st2 := [vi 0]) kX7_dentCount_11 rfl ?_
    refine q_blk (lv2 := [(0, vr a), (1, vi 0), (2, vi 0), (3, vi 0)]) (st2 := []) kX7_dentCount_12 rfl ?_
    refine am_lp2 (I := fun (s : Int) (i : Int) => (0 ≤ i ∧ i ≤ n) ∧ s = gm_sm (gm_de1 n xs ys) i.toNat) (μ := fun (s : Int) (i : Int) => (n - i).toNat) (G := fun (s : Int) (i : Int) => AQ w m_X7_dentCount 3 17 [(0, vr a), (1, vi 0), (2, vi s), (3, vi i)] [] h (am_intp h (fun z => z = gm_de n xs ys))) ?_ 0 0 (⟨⟨by omega, by omega⟩, rfl⟩)
    intro s i hI5 ih4
    obtain ⟨⟨i0, i1⟩, hs⟩ := hI5
    refine q_blk (lv2 := [(0, vr a), (1, vi 0), (2, vi s), (3, vi i)]) (st2 := [vr a, vi i]) kX7_dentCount_17 rfl ?_
    refine q_gi eX7_dentCount_19 fl_RX7_22 (Or.inl rfl) hP.1 (z := n) rfl ?_
    refine AQ.ic_ge (tgt := 104) eX7_dentCount_22 (by decide) (by first | assumption | exact ⟨by omega, by omega⟩) (by first | assumption | exact ⟨by omega, by omega⟩) (fun br6 => ?_) (fun br6 => ?_)
    · skip
      refine q_blk (lv2 := [(0, vr a), (1, vi 0), (2, vi s), (3, vi i)]) (st2 := [vi s]) kX7_dentCount_104 rfl ?_
      exact q_ri rfl eX7_dentCount_105 ⟨s, rfl, (by obtain rfl : i = n := (by omega); exact hs), rfl⟩
    · skip
      refine q_blk (lv2 := [(0, vr a), (1, vi 0), (2, vi s), (3, vi i)]) (st2 := [vi i, vr a]) kX7_dentCount_25 rfl ?_
      refine q_Vi (av := [vi i]) (st := []) (c_X7_placeBefore hS (by omega) (by omega)) lk_RX7_77 (by decide) rfl rfl hS.ob ⟨_, rfl, rfl⟩ (Nat.le_of_ble_eq_true rfl) eX7_dentCount_27 (fun z7 e8 => ?_)
      obtain ⟨e8, e8a, e8b⟩ := e8
      refine q_blk (lv2 := [(0, vr a), (1, vi 0), (2, vi s), (3, vi i), (4, vi z7)]) (st2 := [vi i, vr a]) kX7_dentCount_30 rfl ?_
      refine q_Vi (av := [vi i]) (st := []) (c_X7_placeBehind hS (by omega) (by omega)) lk_RX7_50 (by decide) rfl rfl hS.ob ⟨_, rfl, rfl⟩ (Nat.le_of_ble_eq_true rfl) eX7_dentCount_34 (fun z9 e10 => ?_)
      obtain ⟨e10, e10a, e10b⟩ := e10
      refine q_blk (lv2 := [(0, vr a), (1, vi 0), (2, vi s), (3, vi i), (4, vi z7), (5, vi z9)]) (st2 := [vi z7, vr a]) kX7_dentCount_37 rfl ?_
      refine q_Vi (av := [vi z7]) (st := []) (c_X7_xAt hS (by omega) (by omega)) lk_RX7_39 (by decide) rfl rfl hS.ob ⟨_, rfl, rfl⟩ (Nat.le_of_ble_eq_true rfl) eX7_dentCount_42 (fun z11 e12 => ?_)
      subst e12
      refine q_blk (lv2 := [(0, vr a), (1, vi 0), (2, vi s), (3, vi i), (4, vi z7), (5, vi z9)]) (st2 := [vi z7, vr a, vi (xs z7)]) kX7_dentCount_45 rfl ?_
      refine q_Vi (av := [vi z7]) (st := [vi (xs z7)]) (c_X7_yAt hS (by omega) (by omega)) lk_RX7_43 (by decide) rfl rfl hS.ob ⟨_, rfl, rfl⟩ (Nat.le_of_ble_eq_true rfl) eX7_dentCount_48 (fun z13 e14 => ?_)
      subst e14
      refine q_blk (lv2 := [(0, vr a), (1, vi 0), (2, vi s), (3, vi i), (4, vi z7), (5, vi z9)]) (st2 := [vi i, vr a, vi (ys z7), vi (xs z7)]) kX7_dentCount_51 rfl ?_
      refine q_Vi (av := [vi i]) (st := [vi (ys z7), vi (xs z7)]) (c_X7_xAt hS (by omega) (by omega)) lk_RX7_39 (by decide) rfl rfl hS.ob ⟨_, rfl, rfl⟩ (Nat.le_of_ble_eq_true rfl) eX7_dentCount_53 (fun z15 e16 => ?_)
      subst e16
      refine q_blk (lv2 := [(0, vr a), (1, vi 0), (2, vi s), (3, vi i), (4, vi z7), (5, vi z9)]) (st2 := [vi i, vr a, vi (xs i), vi (ys z7), vi (xs z7)]) kX7_dentCount_56 rfl ?_
      refine q_Vi (av := [vi i]) (st := [vi (xs i), vi (ys z7), vi (xs z7)]) (c_X7_yAt hS (by omega) (by omega)) lk_RX7_43 (by decide) rfl rfl hS.ob ⟨_, rfl, rfl⟩ (Nat.le_of_ble_eq_true rfl) eX7_dentCount_58 (fun z17 e18 => ?_)
      subst e18
      refine q_blk (lv2 := [(0, vr a), (1, vi 0), (2, vi s), (3, vi i), (4, vi z7), (5, vi z9)]) (st2 := [vi z9, vr a, vi (ys i), vi (xs i), vi (ys z7), vi (xs z7)]) kX7_dentCount_61 rfl ?_
      refine q_Vi (av := [vi z9]) (st := [vi (ys i), vi (xs i), vi (ys z7), vi (xs z7)]) (c_X7_xAt hS (by omega) (by omega)) lk_RX7_39 (by decide) rfl rfl hS.ob ⟨_, rfl, rfl⟩ (Nat.le_of_ble_eq_true rfl) eX7_dentCount_64 (fun z19 e20 => ?_)
      subst e20
      refine q_blk (lv2 := [(0, vr a), (1, vi 0), (2, vi s), (3, vi i), (4, vi z7), (5, vi z9)]) (st2 := [vi z9, vr a, vi (xs z9), vi (ys i), vi (xs i), vi (ys z7), vi (xs z7)]) kX7_dentCount_67 rfl ?_
      refine q_Vi (av := [vi z9]) (st := [vi (xs z9), vi (ys i), vi (xs i), vi (ys z7), vi (xs z7)]) (c_X7_yAt hS (by omega) (by omega)) lk_RX7_43 (by decide) rfl rfl hS.ob ⟨_, rfl, rfl⟩ (Nat.le_of_ble_eq_true rfl) eX7_dentCount_70 (fun z21 e22 => ?_)
      subst e22
      refine q_Si (av := [vi (xs z7), vi (ys z7), vi (xs i), vi (ys i), vi (xs z9), vi (ys z9)]) (st := []) (c_X1_turn _ _ _ _ _ _) lk_RX7_80 (by decide) rfl rfl (Nat.le_of_ble_eq_true rfl) eX7_dentCount_73 (fun z23 e24 => ?_)
      have tr : -1800 ≤ z23 ∧ z23 ≤ 1800 := by rw [e24, e8, e10]; exact gm_tn_r hV i0 (by omega)
      refine q_blk (lv2 := [(0, vr a), (1, vi 0), (2, vi s), (3, vi i), (4, vi z7), (5, vi z9), (6, vi z23)]) (st2 := [vi 0]) kX7_dentCount_76 rfl ?_
      refine AQ.of (AS.if_eq_t (tgt := 90) eX7_dentCount_79 (by decide) ⟨by decide, by decide⟩ (by decide)) ?_
      refine q_blk (lv2 := [(0, vr a), (1, vi 0), (2, vi s), (3, vi i), (4, vi z7), (5, vi z9), (6, vi z23)]) (st2 := [vi z23]) kX7_dentCount_90 rfl ?_
      refine AQ.if_le (tgt := 98) eX7_dentCount_92 (by decide) (by first | assumption | exact ⟨by omega, by omega⟩) (fun br25 => ?_) (fun br25 => ?_)
      · skip
        refine q_blk (lv2 := [(0, vr a), (1, vi 0), (2, vi s), (3, vi (i + 1)), (4, vi z7), (5, vi z9), (6, vi z23)]) (st2 := []) kX7_dentCount_98 rfl ?_
        refine q_goto (tgt := 17) eX7_dentCount_101 (by decide) ?_
        refine q_sub (lv2 := [(0, vr a), (1, vi 0), (2, vi s), (3, vi (i + 1))]) [0, 1, 2, 3] rfl ?_
        exact ih4 s (i + 1) (⟨⟨by omega, by omega⟩, by rw [gm_sm_s _ i0, ← hs]; unfold gm_de1 gm_tn; rw [← e8, ← e10, ← e24]; split <;> split <;> omega⟩) (by omega)
      · skip
        refine q_blk (lv2 := [(0, vr a), (1, vi 0), (2, vi (s + 1)), (3, vi i), (4, vi z7), (5, vi z9), (6, vi z23)]) (st2 := []) kX7_dentCount_95 rfl ?_
        refine q_blk (lv2 := [(0, vr a), (1, vi 0), (2, vi (s + 1)), (3, vi (i + 1)), (4, vi z7), (5, vi z9), (6, vi z23)]) (st2 := []) kX7_dentCount_98 rfl ?_
        refine q_goto (tgt := 17) eX7_dentCount_101 (by decide) ?_
        refine q_sub (lv2 := [(0, vr a), (1, vi 0), (2, vi (s + 1)), (3, vi (i + 1))]) [0, 1, 2, 3] rfl ?_
        exact ih4 (s + 1) (i + 1) (⟨⟨by omega, by omega⟩, by rw [gm_sm_s _ i0, ← hs]; unfold gm_de1 gm_tn; rw [← e8, ← e10, ← e24]; split <;> split <;> omega⟩) (by omega)
  · skip
    refine q_blk (lv2 := [(0, vr a)]) (st2 := [vi 1]) kX7_dentCount_7 rfl ?_
    refine q_goto (tgt := 12) eX7_dentCount_8 (by decide) ?_
    refine q_blk (lv2 := [(0, vr a), (1, vi 1), (2, vi 0), (3, vi 0)]) (st2 := []) kX7_dentCount_12 rfl ?_
    refine am_lp2 (I := fun (s : Int) (i : Int) => (0 ≤ i ∧ i ≤ n) ∧ s = gm_sm (gm_de1 n xs ys) i.toNat) (μ := fun (s : Int) (i : Int) => (n - i).toNat) (G := fun (s : Int) (i : Int) => AQ w m_X7_dentCount 3 17 [(0, vr a), (1, vi 1), (2, vi s), (3, vi i)] [] h (am_intp h (fun z => z = gm_de n xs ys))) ?_ 0 0 (⟨⟨by omega, by omega⟩, rfl⟩)
    intro s i hI27 ih26
    obtain ⟨⟨i0, i1⟩, hs⟩ := hI27
    refine q_blk (lv2 := [(0, vr a), (1, vi 1), (2, vi s), (3, vi i)]) (st2 := [vr a, vi i]) kX7_dentCount_17 rfl ?_
    refine q_gi eX7_dentCount_19 fl_RX7_22 (Or.inl rfl) hP.1 (z := n) rfl ?_
    refine AQ.ic_ge (tgt := 104) eX7_dentCount_22 (by decide) (by first | assumption | exact ⟨by omega, by omega⟩) (by first | assumption | exact ⟨by omega, by omega⟩) (fun br28 => ?_) (fun br28 => ?_)
    · skip
      refine q_blk (lv2 := [(0, vr a), (1, vi 1), (2, vi s), (3, vi i)]) (st2 := [vi s]) kX7_dentCount_104 rfl ?_
      exact q_ri rfl eX7_dentCount_105 ⟨s, rfl, (by obtain rfl : i = n := (by omega); exact hs), rfl⟩
    · skip
      refine q_blk (lv2 := [(0, vr a), (1, vi 1), (2, vi s), (3, vi i)]) (st2 := [vi i, vr a]) kX7_dentCount_25 rfl ?_
      refine q_Vi (av := [vi i]) (st := []) (c_X7_placeBefore hS (by omega) (by omega)) lk_RX7_77 (by decide) rfl rfl hS.ob ⟨_, rfl, rfl⟩ (Nat.le_of_ble_eq_true rfl) eX7_dentCount_27 (fun z29 e30 => ?_)
      obtain ⟨e30, e30a, e30b⟩ := e30
      refine q_blk (lv2 := [(0, vr a), (1, vi 1), (2, vi s), (3, vi i), (4, vi z29)]) (st2 := [vi i, vr a]) kX7_dentCount_30 rfl ?_
      refine q_Vi (av := [vi i]) (st := []) (c_X7_placeBehind hS (by omega) (by omega)) lk_RX7_50 (by decide) rfl rfl hS.ob ⟨_, rfl, rfl⟩ (Nat.le_of_ble_eq_true rfl) eX7_dentCount_34 (fun z31 e32 => ?_)
      obtain ⟨e32, e32a, e32b⟩ := e32
      refine q_blk (lv2 := [(0, vr a), (1, vi 1), (2, vi s), (3, vi i), (4, vi z29), (5, vi z31)]) (st2 := [vi z29, vr a]) kX7_dentCount_37 rfl ?_
      refine q_Vi (av := [vi z29]) (st := []) (c_X7_xAt hS (by omega) (by omega)) lk_RX7_39 (by decide) rfl rfl hS.ob ⟨_, rfl, rfl⟩ (Nat.le_of_ble_eq_true rfl) eX7_dentCount_42 (fun z33 e34 => ?_)
      subst e34
      refine q_blk (lv2 := [(0, vr a), (1, vi 1), (2, vi s), (3, vi i), (4, vi z29), (5, vi z31)]) (st2 := [vi z29, vr a, vi (xs z29)]) kX7_dentCount_45 rfl ?_
      refine q_Vi (av := [vi z29]) (st := [vi (xs z29)]) (c_X7_yAt hS (by omega) (by omega)) lk_RX7_43 (by decide) rfl rfl hS.ob ⟨_, rfl, rfl⟩ (Nat.le_of_ble_eq_true rfl) eX7_dentCount_48 (fun z35 e36 => ?_)
      subst e36
      refine q_blk (lv2 := [(0, vr a), (1, vi 1), (2, vi s), (3, vi i), (4, vi z29), (5, vi z31)]) (st2 := [vi i, vr a, vi (ys z29), vi (xs z29)]) kX7_dentCount_51 rfl ?_
      refine q_Vi (av := [vi i]) (st := [vi (ys z29), vi (xs z29)]) (c_X7_xAt hS (by omega) (by omega)) lk_RX7_39 (by decide) rfl rfl hS.ob ⟨_, rfl, rfl⟩ (Nat.le_of_ble_eq_true rfl) eX7_dentCount_53 (fun z37 e38 => ?_)
      subst e38
      refine q_blk (lv2 := [(0, vr a), (1, vi 1), (2, vi s), (3, vi i), (4, vi z29), (5, vi z31)]) (st2 := [vi i, vr a, vi (xs i), vi (ys z29), vi (xs z29)]) kX7_dentCount_56 rfl ?_
      refine q_Vi (av := [vi i]) (st := [vi (xs i), vi (ys z29), vi (xs z29)]) (c_X7_yAt hS (by omega) (by omega)) lk_RX7_43 (by decide) rfl rfl hS.ob ⟨_, rfl, rfl⟩ (Nat.le_of_ble_eq_true rfl) eX7_dentCount_58 (fun z39 e40 => ?_)
      subst e40
      refine q_blk (lv2 := [(0, vr a), (1, vi 1), (2, vi s), (3, vi i), (4, vi z29), (5, vi z31)]) (st2 := [vi z31, vr a, vi (ys i), vi (xs i), vi (ys z29), vi (xs z29)]) kX7_dentCount_61 rfl ?_
      refine q_Vi (av := [vi z31]) (st := [vi (ys i), vi (xs i), vi (ys z29), vi (xs z29)]) (c_X7_xAt hS (by omega) (by omega)) lk_RX7_39 (by decide) rfl rfl hS.ob ⟨_, rfl, rfl⟩ (Nat.le_of_ble_eq_true rfl) eX7_dentCount_64 (fun z41 e42 => ?_)
      subst e42
      refine q_blk (lv2 := [(0, vr a), (1, vi 1), (2, vi s), (3, vi i), (4, vi z29), (5, vi z31)]) (st2 := [vi z31, vr a, vi (xs z31), vi (ys i), vi (xs i), vi (ys z29), vi (xs z29)]) kX7_dentCount_67 rfl ?_
      refine q_Vi (av := [vi z31]) (st := [vi (xs z31), vi (ys i), vi (xs i), vi (ys z29), vi (xs z29)]) (c_X7_yAt hS (by omega) (by omega)) lk_RX7_43 (by decide) rfl rfl hS.ob ⟨_, rfl, rfl⟩ (Nat.le_of_ble_eq_true rfl) eX7_dentCount_70 (fun z43 e44 => ?_)
      subst e44
      refine q_Si (av := [vi (xs z29), vi (ys z29), vi (xs i), vi (ys i), vi (xs z31), vi (ys z31)]) (st := []) (c_X1_turn _ _ _ _ _ _) lk_RX7_80 (by decide) rfl rfl (Nat.le_of_ble_eq_true rfl) eX7_dentCount_73 (fun z45 e46 => ?_)
      have tr : -1800 ≤ z45 ∧ z45 ≤ 1800 := by rw [e46, e30, e32]; exact gm_tn_r hV i0 (by omega)
      refine q_blk (lv2 := [(0, vr a), (1, vi 1), (2, vi s), (3, vi i), (4, vi z29), (5, vi z31), (6, vi z45)]) (st2 := [vi 1]) kX7_dentCount_76 rfl ?_
      refine AQ.of (AS.if_eq_f eX7_dentCount_79 ⟨by decide, by decide⟩ (by decide) (by decide)) ?_
      refine q_blk (lv2 := [(0, vr a), (1, vi 1), (2, vi s), (3, vi i), (4, vi z29), (5, vi z31), (6, vi z45)]) (st2 := [vi z45]) kX7_dentCount_82 rfl ?_
      refine AQ.if_ge (tgt := 98) eX7_dentCount_84 (by decide) (by first | assumption | exact ⟨by omega, by omega⟩) (fun br47 => ?_) (fun br47 => ?_)
      · skip
        refine q_blk (lv2 := [(0, vr a), (1, vi 1), (2, vi s), (3, vi (i + 1)), (4, vi z29), (5, vi z31), (6, vi z45)]) (st2 := []) kX7_dentCount_98 rfl ?_
        refine q_goto (tgt := 17) eX7_dentCount_101 (by decide) ?_
        refine q_sub (lv2 := [(0, vr a), (1, vi 1), (2, vi s), (3, vi (i + 1))]) [0, 1, 2, 3] rfl ?_
        exact ih26 s (i + 1) (⟨⟨by omega, by omega⟩, by rw [gm_sm_s _ i0, ← hs]; unfold gm_de1 gm_tn; rw [← e30, ← e32, ← e46]; split <;> split <;> omega⟩) (by omega)
      · skip
        refine q_goto (tgt := 95) eX7_dentCount_87 (by decide) ?_
        refine q_blk (lv2 := [(0, vr a), (1, vi 1), (2, vi (s + 1)), (3, vi i), (4, vi z29), (5, vi z31), (6, vi z45)]) (st2 := []) kX7_dentCount_95 rfl ?_
        refine q_blk (lv2 := [(0, vr a), (1, vi 1), (2, vi (s + 1)), (3, vi (i + 1)), (4, vi z29), (5, vi z31), (6, vi z45)]) (st2 := []) kX7_dentCount_98 rfl ?_
        refine q_goto (tgt := 17) eX7_dentCount_101 (by decide) ?_
        refine q_sub (lv2 := [(0, vr a), (1, vi 1), (2, vi (s + 1)), (3, vi (i + 1))]) [0, 1, 2, 3] rfl ?_
        exact ih26 (s + 1) (i + 1) (⟨⟨by omega, by omega⟩, by rw [gm_sm_s _ i0, ← hs]; unfold gm_de1 gm_tn; rw [← e30, ← e32, ← e46]; split <;> split <;> omega⟩) (by omega)

set_option maxHeartbeats 1000000 in
theorem c_X7_isRightOf {w : am_w} {h : AH} {a : Nat} {n cl ow : Int} {xs ys : Int → Int} (hS : SX h a n cl ow xs ys) (hV : VC n xs ys) {x y k : Int} (h_x : am_c x) (h_y : am_c y) (k0 : 0 ≤ k) (k1 : k < n) : AE w m_X7_isRightOf 2 [vr a, vi x, vi y, vi k] h (am_intp h (fun z => am_b z (gm_cx n xs ys x y k))) := by
  refine AE.of wf_X7_isRightOf (Nat.le_of_ble_eq_true rfl) (am_ok_zp (fun z q => am_bz q)) ?_
  obtain ⟨fx, fy, hP, ⟨hn0, hn1⟩, hcl, hx⟩ := id hS
  have v1 := hV k k0 k1
  have v1a := v1.1
  have v1b := v1.2
  have hx9 := h_x
  have hy9 := h_y
  unfold am_c at v1a v1b hx9 hy9
  refine q_blk (lv2 := [(0, vr a), (1, vi x), (2, vi y), (3, vi k)]) (st2 := [vi k, vr a]) kX7_isRightOf_0 rfl ?_
  refine q_Vi (av := [vi k]) (st := []) (c_X7_placeBehind hS (by omega) (by omega)) lk_RX7_50 (by decide) rfl rfl hS.ob ⟨_, rfl, rfl⟩ (Nat.le_of_ble_eq_true rfl) eX7_isRightOf_2 (fun z1 e2 => ?_)
  obtain ⟨e2, e2a, e2b⟩ := e2
  have v2 := hV z1 (by omega) (by omega)
  have v2a := v2.1
  have v2b := v2.2
  unfold am_c at v2a v2b
  refine q_blk (lv2 := [(0, vr a), (1, vi x), (2, vi y), (3, vi k), (4, vi z1)]) (st2 := [vi k, vr a]) kX7_isRightOf_5 rfl ?_
  refine q_Vi (av := [vi k]) (st := []) (c_X7_yAt hS (by omega) (by omega)) lk_RX7_43 (by decide) rfl rfl hS.ob ⟨_, rfl, rfl⟩ (Nat.le_of_ble_eq_true rfl) eX7_isRightOf_9 (fun z3 e4 => ?_)
  subst e4
  refine q_blk (lv2 := [(0, vr a), (1, vi x), (2, vi y), (3, vi k), (4, vi z1)]) (st2 := [vi y, vi (ys k)]) kX7_isRightOf_12 rfl ?_
  refine AQ.ic_le (tgt := 20) eX7_isRightOf_13 (by decide) (by first | assumption | exact ⟨by omega, by omega⟩) (by first | assumption | exact ⟨by omega, by omega⟩) (fun br5 => ?_) (fun br5 => ?_)
  · skip
    refine q_blk (lv2 := [(0, vr a), (1, vi x), (2, vi y), (3, vi k), (4, vi z1)]) (st2 := [vi 0]) kX7_isRightOf_20 rfl ?_
    refine q_blk (lv2 := [(0, vr a), (1, vi x), (2, vi y), (3, vi k), (4, vi z1), (5, vi 0)]) (st2 := [vi z1, vr a]) kX7_isRightOf_21 rfl ?_
    refine q_Vi (av := [vi z1]) (st := []) (c_X7_yAt hS (by omega) (by omega)) lk_RX7_43 (by decide) rfl rfl hS.ob ⟨_, rfl, rfl⟩ (Nat.le_of_ble_eq_true rfl) eX7_isRightOf_26 (fun z6 e7 => ?_)
    subst e7
    refine q_blk (lv2 := [(0, vr a), (1, vi x), (2, vi y), (3, vi k), (4, vi z1), (5, vi 0)]) (st2 := [vi y, vi (ys z1)]) kX7_isRightOf_29 rfl ?_
    refine AQ.ic_le (tgt := 37) eX7_isRightOf_30 (by decide) (by first | assumption | exact ⟨by omega, by omega⟩) (by first | assumption | exact ⟨by omega, by omega⟩) (fun br8 => ?_) (fun br8 => ?_)
    · skip
      refine q_blk (lv2 := [(0, vr a), (1, vi x), (2, vi y), (3, vi k), (4, vi z1), (5, vi 0)]) (st2 := [vi 0]) kX7_isRightOf_37 rfl ?_
      refine q_blk (lv2 := [(0, vr a), (1, vi x), (2, vi y), (3, vi k), (4, vi z1), (5, vi 0), (6, vi 0)]) (st2 := [vi 0, vi 0]) kX7_isRightOf_38 rfl ?_
      refine AQ.of (AS.ic_ne_f eX7_isRightOf_44 ⟨by decide, by decide⟩ ⟨by decide, by decide⟩ (by decide) (by decide)) ?_
      refine q_blk (lv2 := [(0, vr a), (1, vi x), (2, vi y), (3, vi k), (4, vi z1), (5, vi 0), (6, vi 0)]) (st2 := [vi 0]) kX7_isRightOf_47 rfl ?_
      exact q_rz rfl eX7_isRightOf_48 (by decide) ⟨0, rfl, Or.inr ⟨rfl, by unfold gm_cx; rw [← e2]; intro hq; obtain ⟨hq1, hq2⟩ := hq; split at hq2 <;> omega⟩, rfl⟩
    · skip
      refine q_blk (lv2 := [(0, vr a), (1, vi x), (2, vi y), (3, vi k), (4, vi z1), (5, vi 0)]) (st2 := [vi 1]) kX7_isRightOf_33 rfl ?_
      refine q_goto (tgt := 38) eX7_isRightOf_34 (by decide) ?_
      refine q_blk (lv2 := [(0, vr a), (1, vi x), (2, vi y), (3, vi k), (4, vi z1), (5, vi 0), (6, vi 1)]) (st2 := [vi 1, vi 0]) kX7_isRightOf_38 rfl ?_
      refine AQ.of (AS.ic_ne_t (tgt := 49) eX7_isRightOf_44 (by decide) ⟨by decide, by decide⟩ ⟨by decide, by decide⟩ (by decide)) ?_
      refine q_blk (lv2 := [(0, vr a), (1, vi x), (2, vi y), (3, vi k), (4, vi z1), (5, vi 0), (6, vi 1)]) (st2 := [vi k, vr a]) kX7_isRightOf_49 rfl ?_
      refine q_Vi (av := [vi k]) (st := []) (c_X7_xAt hS (by omega) (by omega)) lk_RX7_39 (by decide) rfl rfl hS.ob ⟨_, rfl, rfl⟩ (Nat.le_of_ble_eq_true rfl) eX7_isRightOf_51 (fun z9 e10 => ?_)
      subst e10
      refine q_blk (lv2 := [(0, vr a), (1, vi x), (2, vi y), (3, vi k), (4, vi z1), (5, vi 0), (6, vi 1)]) (st2 := [vi k, vr a, vi (xs k)]) kX7_isRightOf_54 rfl ?_
      refine q_Vi (av := [vi k]) (st := [vi (xs k)]) (c_X7_yAt hS (by omega) (by omega)) lk_RX7_43 (by decide) rfl rfl hS.ob ⟨_, rfl, rfl⟩ (Nat.le_of_ble_eq_true rfl) eX7_isRightOf_56 (fun z11 e12 => ?_)
      subst e12
      refine q_blk (lv2 := [(0, vr a), (1, vi x), (2, vi y), (3, vi k), (4, vi z1), (5, vi 0), (6, vi 1)]) (st2 := [vi z1, vr a, vi (ys k), vi (xs k)]) kX7_isRightOf_59 rfl ?_
      refine q_Vi (av := [vi z1]) (st := [vi (ys k), vi (xs k)]) (c_X7_xAt hS (by omega) (by omega)) lk_RX7_39 (by decide) rfl rfl hS.ob ⟨_, rfl, rfl⟩ (Nat.le_of_ble_eq_true rfl) eX7_isRightOf_62 (fun z13 e14 => ?_)
      subst e14
      refine q_blk (lv2 := [(0, vr a), (1, vi x), (2, vi y), (3, vi k), (4, vi z1), (5, vi 0), (6, vi 1)]) (st2 := [vi z1, vr a, vi (xs z1), vi (ys k), vi (xs k)]) kX7_isRightOf_65 rfl ?_
      refine q_Vi (av := [vi z1]) (st := [vi (xs z1), vi (ys k), vi (xs k)]) (c_X7_yAt hS (by omega) (by omega)) lk_RX7_43 (by decide) rfl rfl hS.ob ⟨_, rfl, rfl⟩ (Nat.le_of_ble_eq_true rfl) eX7_isRightOf_68 (fun z15 e16 => ?_)
      subst e16
      refine q_blk (lv2 := [(0, vr a), (1, vi x), (2, vi y), (3, vi k), (4, vi z1), (5, vi 0), (6, vi 1)]) (st2 := [vi y, vi x, vi (ys z1), vi (xs z1), vi (ys k), vi (xs k)]) kX7_isRightOf_71 rfl ?_
      refine q_Si (av := [vi (xs k), vi (ys k), vi (xs z1), vi (ys z1), vi x, vi y]) (st := []) (c_X1_turn _ _ _ _ _ _) lk_RX7_80 (by decide) rfl rfl (Nat.le_of_ble_eq_true rfl) eX7_isRightOf_73 (fun z17 e18 => ?_)
      have tr : -1800 ≤ z17 ∧ z17 ≤ 1800 := by rw [e18]; exact gm_turn_r v1.1 v1.2 v2.1 v2.2 h_x h_y
      refine q_blk (lv2 := [(0, vr a), (1, vi x), (2, vi y), (3, vi k), (4, vi z1), (5, vi 0), (6, vi 1), (7, vi z17)]) (st2 := [vi 1]) kX7_isRightOf_76 rfl ?_
      refine AQ.of (AS.if_eq_f eX7_isRightOf_80 ⟨by decide, by decide⟩ (by decide) (by decide)) ?_
      refine q_blk (lv2 := [(0, vr a), (1, vi x), (2, vi y), (3, vi k), (4, vi z1), (5, vi 0), (6, vi 1), (7, vi z17)]) (st2 := [vi z17]) kX7_isRightOf_83 rfl ?_
      refine AQ.if_le (tgt := 92) eX7_isRightOf_85 (by decide) (by first | assumption | exact ⟨by omega, by omega⟩) (fun br19 => ?_) (fun br19 => ?_)
      · skip
        refine q_blk (lv2 := [(0, vr a), (1, vi x), (2, vi y), (3, vi k), (4, vi z1), (5, vi 0), (6, vi 1), (7, vi z17)]) (st2 := [vi 0]) kX7_isRightOf_92 rfl ?_
        refine q_goto (tgt := 106) eX7_isRightOf_93 (by decide) ?_
        exact q_rz rfl eX7_isRightOf_106 (by decide) ⟨0, rfl, Or.inr ⟨rfl, by unfold gm_cx; rw [← e2]; intro hq; obtain ⟨hq1, hq2⟩ := hq; rw [← e18] at hq2; split at hq2 <;> omega⟩, rfl⟩
      · skip
        refine q_blk (lv2 := [(0, vr a), (1, vi x), (2, vi y), (3, vi k), (4, vi z1), (5, vi 0), (6, vi 1), (7, vi z17)]) (st2 := [vi 1]) kX7_isRightOf_88 rfl ?_
        refine q_goto (tgt := 106) eX7_isRightOf_89 (by decide) ?_
        exact q_rz rfl eX7_isRightOf_106 (by decide) ⟨1, rfl, Or.inl ⟨rfl, by unfold gm_cx; rw [← e2, ← e18]; refine ⟨by omega, ?_⟩; split <;> omega⟩, rfl⟩
  · skip
    refine q_blk (lv2 := [(0, vr a), (1, vi x), (2, vi y), (3, vi k), (4, vi z1)]) (st2 := [vi 1]) kX7_isRightOf_16 rfl ?_
    refine q_goto (tgt := 21) eX7_isRightOf_17 (by decide) ?_
    refine q_blk (lv2 := [(0, vr a), (1, vi x), (2, vi y), (3, vi k), (4, vi z1), (5, vi 1)]) (st2 := [vi z1, vr a]) kX7_isRightOf_21 rfl ?_
    refine q_Vi (av := [vi z1]) (st := []) (c_X7_yAt hS (by omega) (by omega)) lk_RX7_43 (by decide) rfl rfl hS.ob ⟨_, rfl, rfl⟩ (Nat.le_of_ble_eq_true rfl) eX7_isRightOf_26 (fun z20 e21 => ?_)
    subst e21
    refine q_blk (lv2 := [(0, vr a), (1, vi x), (2, vi y), (3, vi k), (4, vi z1), (5, vi 1)]) (st2 := [vi y, vi (ys z1)]) kX7_isRightOf_29 rfl ?_
    refine AQ.ic_le (tgt := 37) eX7_isRightOf_30 (by decide) (by first | assumption | exact ⟨by omega, by omega⟩) (by first | assumption | exact ⟨by omega, by omega⟩) (fun br22 => ?_) (fun br22 => ?_)
    · skip
      refine q_blk (lv2 := [(0, vr a), (1, vi x), (2, vi y), (3, vi k), (4, vi z1), (5, vi 1)]) (st2 := [vi 0]) kX7_isRightOf_37 rfl ?_
      refine q_blk (lv2 := [(0, vr a), (1, vi x), (2, vi y), (3, vi k), (4, vi z1), (5, vi 1), (6, vi 0)]) (st2 := [vi 0, vi 1]) kX7_isRightOf_38 rfl ?_
      refine AQ.of (AS.ic_ne_t (tgt := 49) eX7_isRightOf_44 (by decide) ⟨by decide, by decide⟩ ⟨by decide, by decide⟩ (by decide)) ?_
      refine q_blk (lv2 := [(0, vr a), (1, vi x), (2, vi y), (3, vi k), (4, vi z1), (5, vi 1), (6, vi 0)]) (st2 := [vi k, vr a]) kX7_isRightOf_49 rfl ?_
      refine q_Vi (av := [vi k]) (st := []) (c_X7_xAt hS (by omega) (by omega)) lk_RX7_39 (by decide) rfl rfl hS.ob ⟨_, rfl, rfl⟩ (Nat.le_of_ble_eq_true rfl) eX7_isRightOf_51 (fun z23 e24 => ?_)
      subst e24
      refine q_blk (lv2 := [(0, vr a), (1, vi x), (2, vi y), (3, vi k), (4, vi z1), (5, vi 1), (6, vi 0)]) (st2 := [vi k, vr a, vi (xs k)]) kX7_isRightOf_54 rfl ?_
      refine q_Vi (av := [vi k]) (st := [vi (xs k)]) (c_X7_yAt hS (by omega) (by omega)) lk_RX7_43 (by decide) rfl rfl hS.ob ⟨_, rfl, rfl⟩ (Nat.le_of_ble_eq_true rfl) eX7_isRightOf_56 (fun z25 e26 => ?_)
      subst e26
      refine q_blk (lv2 := [(0, vr a), (1, vi x), (2, vi y), (3, vi k), (4, vi z1), (5, vi 1), (6, vi 0)]) (st2 := [vi z1, vr a, vi (ys k), vi (xs k)]) kX7_isRightOf_59 rfl ?_
      refine q_Vi (av := [vi z1]) (st := [vi (ys k), vi (xs k)]) (c_X7_xAt hS (by omega) (by omega)) lk_RX7_39 (by decide) rfl rfl hS.ob ⟨_, rfl, rfl⟩ (Nat.le_of_ble_eq_true rfl) eX7_isRightOf_62 (fun z27 e28 => ?_)
      subst e28
      refine q_blk (lv2 := [(0, vr a), (1, vi x), (2, vi y), (3, vi k), (4, vi z1), (5, vi 1), (6, vi 0)]) (st2 := [vi z1, vr a, vi (xs z1), vi (ys k), vi (xs k)]) kX7_isRightOf_65 rfl ?_
      refine q_Vi (av := [vi z1]) (st := [vi (xs z1), vi (ys k), vi (xs k)]) (c_X7_yAt hS (by omega) (by omega)) lk_RX7_43 (by decide) rfl rfl hS.ob ⟨_, rfl, rfl⟩ (Nat.le_of_ble_eq_true rfl) eX7_isRightOf_68 (fun z29 e30 => ?_)
      subst e30
      refine q_blk (lv2 := [(0, vr a), (1, vi x), (2, vi y), (3, vi k), (4, vi z1), (5, vi 1), (6, vi 0)]) (st2 := [vi y, vi x, vi (ys z1), vi (xs z1), vi (ys k), vi (xs k)]) kX7_isRightOf_71 rfl ?_
      refine q_Si (av := [vi (xs k), vi (ys k), vi (xs z1), vi (ys z1), vi x, vi y]) (st := []) (c_X1_turn _ _ _ _ _ _) lk_RX7_80 (by decide) rfl rfl (Nat.le_of_ble_eq_true rfl) eX7_isRightOf_73 (fun z31 e32 => ?_)
      have tr : -1800 ≤ z31 ∧ z31 ≤ 1800 := by rw [e32]; exact gm_turn_r v1.1 v1.2 v2.1 v2.2 h_x h_y
      refine q_blk (lv2 := [(0, vr a), (1, vi x), (2, vi y), (3, vi k), (4, vi z1), (5, vi 1), (6, vi 0), (7, vi z31)]) (st2 := [vi 0]) kX7_isRightOf_76 rfl ?_
      refine AQ.of (AS.if_eq_t (tgt := 96) eX7_isRightOf_80 (by decide) ⟨by decide, by decide⟩ (by decide)) ?_
      refine q_blk (lv2 := [(0, vr a), (1, vi x), (2, vi y), (3, vi k), (4, vi z1), (5, vi 1), (6, vi 0), (7, vi z31)]) (st2 := [vi z31]) kX7_isRightOf_96 rfl ?_
      refine AQ.if_ge (tgt := 105) eX7_isRightOf_98 (by decide) (by first | assumption | exact ⟨by omega, by omega⟩) (fun br33 => ?_) (fun br33 => ?_)
      · skip
        refine q_blk (lv2 := [(0, vr a), (1, vi x), (2, vi y), (3, vi k), (4, vi z1), (5, vi 1), (6, vi 0), (7, vi z31)]) (st2 := [vi 0]) kX7_isRightOf_105 rfl ?_
        exact q_rz rfl eX7_isRightOf_106 (by decide) ⟨0, rfl, Or.inr ⟨rfl, by unfold gm_cx; rw [← e2]; intro hq; obtain ⟨hq1, hq2⟩ := hq; rw [← e32] at hq2; split at hq2 <;> omega⟩, rfl⟩
      · skip
        refine q_blk (lv2 := [(0, vr a), (1, vi x), (2, vi y), (3, vi k), (4, vi z1), (5, vi 1), (6, vi 0), (7, vi z31)]) (st2 := [vi 1]) kX7_isRightOf_101 rfl ?_
        refine q_goto (tgt := 106) eX7_isRightOf_102 (by decide) ?_
        exact q_rz rfl eX7_isRightOf_106 (by decide) ⟨1, rfl, Or.inl ⟨rfl, by unfold gm_cx; rw [← e2, ← e32]; refine ⟨by omega, ?_⟩; split <;> omega⟩, rfl⟩
    · skip
      refine q_blk (lv2 := [(0, vr a), (1, vi x), (2, vi y), (3, vi k), (4, vi z1), (5, vi 1)]) (st2 := [vi 1]) kX7_isRightOf_33 rfl ?_
      refine q_goto (tgt := 38) eX7_isRightOf_34 (by decide) ?_
      refine q_blk (lv2 := [(0, vr a), (1, vi x), (2, vi y), (3, vi k), (4, vi z1), (5, vi 1), (6, vi 1)]) (st2 := [vi 1, vi 1]) kX7_isRightOf_38 rfl ?_
      refine AQ.of (AS.ic_ne_f eX7_isRightOf_44 ⟨by decide, by decide⟩ ⟨by decide, by decide⟩ (by decide) (by decide)) ?_
      refine q_blk (lv2 := [(0, vr a), (1, vi x), (2, vi y), (3, vi k), (4, vi z1), (5, vi 1), (6, vi 1)]) (st2 := [vi 0]) kX7_isRightOf_47 rfl ?_
      exact q_rz rfl eX7_isRightOf_48 (by decide) ⟨0, rfl, Or.inr ⟨rfl, by unfold gm_cx; rw [← e2]; intro hq; obtain ⟨hq1, hq2⟩ := hq; split at hq2 <;> omega⟩, rfl⟩

theorem gm_od_t {n : Int} {xs ys : Int → Int} {x y i f f' : Int} (h0 : 0 ≤ i) (hod : am_b f (gm_od n xs ys x y i.toNat)) (hc : gm_cx n xs ys x y i) (hf : f' = 1 - f) : am_b f' (gm_od n xs ys x y (i + 1).toNat) := by
  rcases hod with ⟨rfl, h⟩ | ⟨rfl, h⟩
  · exact Or.inr ⟨by omega, fun q => (gm_od_s h0).mp q ⟨fun _ => hc, fun _ => h⟩⟩
  · exact Or.inl ⟨by omega, (gm_od_s h0).mpr fun q => h (q.mpr hc)⟩
theorem gm_od_f {n : Int} {xs ys : Int → Int} {x y i f : Int} (h0 : 0 ≤ i) (hod : am_b f (gm_od n xs ys x y i.toNat)) (hc : ¬ gm_cx n xs ys x y i) : am_b f (gm_od n xs ys x y (i + 1).toNat) := by
  rcases hod with ⟨rfl, h⟩ | ⟨rfl, h⟩
  · exact Or.inl ⟨rfl, (gm_od_s h0).mpr fun q => hc (q.mp h)⟩
  · exact Or.inr ⟨rfl, fun q => (gm_od_s h0).mp q ⟨fun z => absurd z h, fun z => absurd z hc⟩⟩

set_option maxHeartbeats 1000000 in
theorem c_X7_situationOf {w : am_w} {h : AH} {a : Nat} {n cl ow : Int} {xs ys : Int → Int} (hS : SX h a n cl ow xs ys) (hV : VC n xs ys) (hc1 : cl = 1) {x y : Int} (h_x : am_c x) (h_y : am_c y) : AE w m_X7_situationOf 3 [vr a, vi x, vi y] h (am_intp h (fun z => gm_si z n xs ys x y)) := by
  refine AE.of wf_X7_situationOf (Nat.le_of_ble_eq_true rfl) (am_ok_ip) ?_
  obtain ⟨fx, fy, hP, ⟨hn0, hn1⟩, hcl, hx⟩ := id hS
  have hns : gm_ns n cl = n := by unfold gm_ns; rw [if_neg (by omega)]
  refine q_blk (lv2 := [(0, vr a), (1, vi x), (2, vi y)]) (st2 := [vi y, vi x, vr a]) kX7_situationOf_0 rfl ?_
  refine q_Vi (av := [vi x, vi y]) (st := []) (c_X7_hasOnSide hS hV h_x h_y) lk_RX7_84 (by decide) rfl rfl hS.ob ⟨_, rfl, rfl⟩ (Nat.le_of_ble_eq_true rfl) eX7_situationOf_3 (fun z1 e2 => ?_)
  rcases e2 with ⟨rfl, e2⟩ | ⟨rfl, e2⟩
  · skip
    refine AQ.of (AS.if_eq_f eX7_situationOf_6 ⟨by decide, by decide⟩ (by decide) (by decide)) ?_
    rw [hns] at e2
    refine q_blk (lv2 := [(0, vr a), (1, vi x), (2, vi y)]) (st2 := [vi 1]) kX7_situationOf_9 rfl ?_
    exact q_ri rfl eX7_situationOf_10 ⟨1, rfl, Or.inl ⟨rfl, e2⟩, rfl⟩
  · skip
    refine AQ.of (AS.if_eq_t (tgt := 11) eX7_situationOf_6 (by decide) ⟨by decide, by decide⟩ (by decide)) ?_
    rw [hns] at e2
    refine q_blk (lv2 := [(0, vr a), (1, vi x), (2, vi y), (3, vi 0), (4, vi 0)]) (st2 := []) kX7_situationOf_11 rfl ?_
    refine am_lp2 (I := fun (f : Int) (i : Int) => (0 ≤ i ∧ i ≤ n) ∧ (f = 0 ∨ f = 1) ∧ am_b f (gm_od n xs ys x y i.toNat)) (μ := fun (f : Int) (i : Int) => (n - i).toNat) (G := fun (f : Int) (i : Int) => AQ w m_X7_situationOf 3 16 [(0, vr a), (1, vi x), (2, vi y), (3, vi f), (4, vi i)] [] h (am_intp h (fun z => gm_si z n xs ys x y))) ?_ 0 0 (⟨⟨by omega, by omega⟩, by omega, Or.inr ⟨rfl, id⟩⟩)
    intro f i hI4 ih3
    obtain ⟨⟨i0, i1⟩, hf, hod⟩ := hI4
    refine q_blk (lv2 := [(0, vr a), (1, vi x), (2, vi y), (3, vi f), (4, vi i)]) (st2 := [vr a, vi i]) kX7_situationOf_16 rfl ?_
    refine q_gi eX7_situationOf_19 fl_RX7_22 (Or.inl rfl) hP.1 (z := n) rfl ?_
    refine AQ.ic_ge (tgt := 52) eX7_situationOf_22 (by decide) (by first | assumption | exact ⟨by omega, by omega⟩) (by first | assumption | exact ⟨by omega, by omega⟩) (fun br5 => ?_) (fun br5 => ?_)
    · skip
      refine q_blk (lv2 := [(0, vr a), (1, vi x), (2, vi y), (3, vi f), (4, vi i)]) (st2 := [vi f]) kX7_situationOf_52 rfl ?_
      refine AQ.if_eq (tgt := 60) eX7_situationOf_53 (by decide) (by first | assumption | exact ⟨by omega, by omega⟩) (fun br6 => ?_) (fun br6 => ?_)
      · skip
        refine q_blk (lv2 := [(0, vr a), (1, vi x), (2, vi y), (3, vi f), (4, vi i)]) (st2 := [vi 0]) kX7_situationOf_60 rfl ?_
        exact q_ri rfl eX7_situationOf_61 ⟨0, rfl, Or.inr (Or.inr ⟨rfl, e2, by obtain rfl : i = n := (by omega); rcases hod with q | q; omega; exact q.2⟩), rfl⟩
      · skip
        refine q_blk (lv2 := [(0, vr a), (1, vi x), (2, vi y), (3, vi f), (4, vi i)]) (st2 := [vi 2]) kX7_situationOf_56 rfl ?_
        refine q_goto (tgt := 61) eX7_situationOf_57 (by decide) ?_
        exact q_ri rfl eX7_situationOf_61 ⟨2, rfl, Or.inr (Or.inl ⟨rfl, e2, by obtain rfl : i = n := (by omega); rcases hod with q | q; exact q.2; omega⟩), rfl⟩
    · skip
      refine q_blk (lv2 := [(0, vr a), (1, vi x), (2, vi y), (3, vi f), (4, vi i)]) (st2 := [vi i, vi y, vi x, vr a]) kX7_situationOf_25 rfl ?_
      refine q_Vi (av := [vi x, vi y, vi i]) (st := []) (c_X7_isRightOf hS hV h_x h_y (by omega) (by omega)) lk_RX7_88 (by decide) rfl rfl hS.ob ⟨_, rfl, rfl⟩ (Nat.le_of_ble_eq_true rfl) eX7_situationOf_30 (fun z7 e8 => ?_)
      rcases e8 with ⟨rfl, e8⟩ | ⟨rfl, e8⟩
      · skip
        refine AQ.of (AS.if_eq_f eX7_situationOf_33 ⟨by decide, by decide⟩ (by decide) (by decide)) ?_
        refine q_blk (lv2 := [(0, vr a), (1, vi x), (2, vi y), (3, vi f), (4, vi i)]) (st2 := [vi f]) kX7_situationOf_36 rfl ?_
        refine AQ.if_ne (tgt := 44) eX7_situationOf_37 (by decide) (by first | assumption | exact ⟨by omega, by omega⟩) (fun br9 => ?_) (fun br9 => ?_)
        · skip
          refine q_blk (lv2 := [(0, vr a), (1, vi x), (2, vi y), (3, vi f), (4, vi i)]) (st2 := [vi 0]) kX7_situationOf_44 rfl ?_
          refine q_blk (lv2 := [(0, vr a), (1, vi x), (2, vi y), (3, vi 0), (4, vi i)]) (st2 := []) kX7_situationOf_45 rfl ?_
          refine q_blk (lv2 := [(0, vr a), (1, vi x), (2, vi y), (3, vi 0), (4, vi (i + 1))]) (st2 := []) kX7_situationOf_46 rfl ?_
          refine q_goto (tgt := 16) eX7_situationOf_49 (by decide) ?_
          exact ih3 0 (i + 1) (⟨⟨by omega, by omega⟩, by omega, gm_od_t i0 hod e8 (by omega)⟩) (by omega)
        · skip
          refine q_blk (lv2 := [(0, vr a), (1, vi x), (2, vi y), (3, vi f), (4, vi i)]) (st2 := [vi 1]) kX7_situationOf_40 rfl ?_
          refine q_goto (tgt := 45) eX7_situationOf_41 (by decide) ?_
          refine q_blk (lv2 := [(0, vr a), (1, vi x), (2, vi y), (3, vi 1), (4, vi i)]) (st2 := []) kX7_situationOf_45 rfl ?_
          refine q_blk (lv2 := [(0, vr a), (1, vi x), (2, vi y), (3, vi 1), (4, vi (i + 1))]) (st2 := []) kX7_situationOf_46 rfl ?_
          refine q_goto (tgt := 16) eX7_situationOf_49 (by decide) ?_
          exact ih3 1 (i + 1) (⟨⟨by omega, by omega⟩, by omega, gm_od_t i0 hod e8 (by omega)⟩) (by omega)
      · skip
        refine AQ.of (AS.if_eq_t (tgt := 46) eX7_situationOf_33 (by decide) ⟨by decide, by decide⟩ (by decide)) ?_
        refine q_blk (lv2 := [(0, vr a), (1, vi x), (2, vi y), (3, vi f), (4, vi (i + 1))]) (st2 := []) kX7_situationOf_46 rfl ?_
        refine q_goto (tgt := 16) eX7_situationOf_49 (by decide) ?_
        exact ih3 f (i + 1) (⟨⟨by omega, by omega⟩, by omega, gm_od_f i0 hod e8⟩) (by omega)
