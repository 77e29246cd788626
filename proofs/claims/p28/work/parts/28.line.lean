/-! CornerClaims$Line. -/
def LN (h : AH) (l : Nat) (ax ay bx by' lp lc l1 l2 : Int) : Prop := h.1 l = some (3, 8, am_L [ax, ay, bx, by', lp, lc, l1, l2], am_N)
theorem LN.ob {h : AH} {l : Nat} {ax ay bx by' lp lc l1 l2 : Int} (hL : LN h l ax ay bx by' lp lc l1 l2) : am_ob h l 3 := ⟨_, _, _, hL⟩
theorem LN.kept {h h1 : AH} {l : Nat} {ax ay bx by' lp lc l1 l2 : Int} {lo hi : Nat} (hL : LN h l ax ay bx by' lp lc l1 l2) (f : am_fr h h1 lo hi) (hd : l < lo ∨ hi ≤ l) : LN h1 l ax ay bx by' lp lc l1 l2 := (f.2 _ (by omega)).trans hL

set_option maxHeartbeats 1000000 in
theorem c_X4_draw {w : am_w} {h : AH} {l : Nat} {ax ay bx by' lp lc l1 l2 : Int} (hL : LN h l ax ay bx by' lp lc l1 l2) {x y z t : Int} : AE w m_X4_draw 1 [vr l, vi x, vi y, vi z, vi t] h (am_unit (fun h1 => LN h1 l x y z t lp lc l1 l2 ∧ am_fr h h1 l (l + 1))) := by
  refine AE.of wf_X4_draw (Nat.le_of_ble_eq_true rfl) (am_ok_v) ?_
  have hL := hL
  unfold LN at hL
  refine q_blk (lv2 := [(0, vr l), (1, vi x), (2, vi y), (3, vi z), (4, vi t)]) (st2 := [vi x, vr l]) kX4_draw_0 rfl ?_
  refine q_pi eX4_draw_2 fl_RX4_9 (fun q hq => by cases hq; exact Or.inl rfl) (Or.inl rfl) hL (Nat.le_of_ble_eq_true rfl) (l2 := [x, ay, bx, by', lp, lc, l1, l2]) rfl (fun h1 e2 => ?_)
  have k3 := am_at e2
  refine q_blk (lv2 := [(0, vr l), (1, vi x), (2, vi y), (3, vi z), (4, vi t)]) (st2 := [vi y, vr l]) kX4_draw_5 rfl ?_
  refine q_pi eX4_draw_7 fl_RX4_15 (fun q hq => by cases hq; exact Or.inl rfl) (Or.inl rfl) k3 (Nat.le_of_ble_eq_true rfl) (l2 := [x, y, bx, by', lp, lc, l1, l2]) rfl (fun h4 e5 => ?_)
  have k6 := am_at e5
  refine q_blk (lv2 := [(0, vr l), (1, vi x), (2, vi y), (3, vi z), (4, vi t)]) (st2 := [vi z, vr l]) kX4_draw_10 rfl ?_
  refine q_pi eX4_draw_12 fl_RX4_18 (fun q hq => by cases hq; exact Or.inl rfl) (Or.inl rfl) k6 (Nat.le_of_ble_eq_true rfl) (l2 := [x, y, z, by', lp, lc, l1, l2]) rfl (fun h7 e8 => ?_)
  have k9 := am_at e8
  refine q_blk (lv2 := [(0, vr l), (1, vi x), (2, vi y), (3, vi z), (4, vi t)]) (st2 := [vi t, vr l]) kX4_draw_15 rfl ?_
  refine q_pi eX4_draw_18 fl_RX4_21 (fun q hq => by cases hq; exact Or.inl rfl) (Or.inl rfl) k9 (Nat.le_of_ble_eq_true rfl) (l2 := [x, y, z, t, lp, lc, l1, l2]) rfl (fun h10 e11 => ?_)
  have k12 := am_at e11
  exact q_rv rfl eX4_draw_21 ⟨rfl, k12, ((((am_fr.st e2 (by omega) (by omega)).tr (am_fr.st e5 (by omega) (by omega))).tr (am_fr.st e8 (by omega) (by omega))).tr (am_fr.st e11 (by omega) (by omega)))⟩

set_option maxHeartbeats 1000000 in
theorem c_X4_loseNothing {w : am_w} {h : AH} {l : Nat} {ax ay bx by' lp lc l1 l2 : Int} (hL : LN h l ax ay bx by' lp lc l1 l2)  : AE w m_X4_loseNothing 1 [vr l] h (am_unit (fun h1 => LN h1 l ax ay bx by' (-1) lc l1 l2 ∧ am_fr h h1 l (l + 1))) := by
  refine AE.of wf_X4_loseNothing (Nat.le_of_ble_eq_true rfl) (am_ok_v) ?_
  have hL := hL
  unfold LN at hL
  refine q_blk (lv2 := [(0, vr l)]) (st2 := [vi (-1), vr l]) kX4_loseNothing_0 rfl ?_
  refine q_pi eX4_loseNothing_2 fl_RX4_24 (fun q hq => by cases hq; exact Or.inl rfl) (Or.inl rfl) hL (Nat.le_of_ble_eq_true rfl) (l2 := [ax, ay, bx, by', (-1), lc, l1, l2]) rfl (fun h1 e2 => ?_)
  have k3 := am_at e2
  exact q_rv rfl eX4_loseNothing_5 ⟨rfl, k3, (am_fr.st e2 (by omega) (by omega))⟩

set_option maxHeartbeats 1000000 in
theorem c_X4_lose {w : am_w} {h : AH} {l : Nat} {ax ay bx by' lp lc l1 l2 : Int} (hL : LN h l ax ay bx by' lp lc l1 l2) {x y z t : Int} : AE w m_X4_lose 1 [vr l, vi x, vi y, vi z, vi t] h (am_unit (fun h1 => LN h1 l ax ay bx by' x y z t ∧ am_fr h h1 l (l + 1))) := by
  refine AE.of wf_X4_lose (Nat.le_of_ble_eq_true rfl) (am_ok_v) ?_
  have hL := hL
  unfold LN at hL
  refine q_blk (lv2 := [(0, vr l), (1, vi x), (2, vi y), (3, vi z), (4, vi t)]) (st2 := [vi x, vr l]) kX4_lose_0 rfl ?_
  refine q_pi eX4_lose_2 fl_RX4_24 (fun q hq => by cases hq; exact Or.inl rfl) (Or.inl rfl) hL (Nat.le_of_ble_eq_true rfl) (l2 := [ax, ay, bx, by', x, lc, l1, l2]) rfl (fun h1 e2 => ?_)
  have k3 := am_at e2
  refine q_blk (lv2 := [(0, vr l), (1, vi x), (2, vi y), (3, vi z), (4, vi t)]) (st2 := [vi y, vr l]) kX4_lose_5 rfl ?_
  refine q_pi eX4_lose_7 fl_RX4_27 (fun q hq => by cases hq; exact Or.inl rfl) (Or.inl rfl) k3 (Nat.le_of_ble_eq_true rfl) (l2 := [ax, ay, bx, by', x, y, l1, l2]) rfl (fun h4 e5 => ?_)
  have k6 := am_at e5
  refine q_blk (lv2 := [(0, vr l), (1, vi x), (2, vi y), (3, vi z), (4, vi t)]) (st2 := [vi z, vr l]) kX4_lose_10 rfl ?_
  refine q_pi eX4_lose_12 fl_RX4_30 (fun q hq => by cases hq; exact Or.inl rfl) (Or.inl rfl) k6 (Nat.le_of_ble_eq_true rfl) (l2 := [ax, ay, bx, by', x, y, z, l2]) rfl (fun h7 e8 => ?_)
  have k9 := am_at e8
  refine q_blk (lv2 := [(0, vr l), (1, vi x), (2, vi y), (3, vi z), (4, vi t)]) (st2 := [vi t, vr l]) kX4_lose_15 rfl ?_
  refine q_pi eX4_lose_18 fl_RX4_33 (fun q hq => by cases hq; exact Or.inl rfl) (Or.inl rfl) k9 (Nat.le_of_ble_eq_true rfl) (l2 := [ax, ay, bx, by', x, y, z, t]) rfl (fun h10 e11 => ?_)
  have k12 := am_at e11
  exact q_rv rfl eX4_lose_21 ⟨rfl, k12, ((((am_fr.st e2 (by omega) (by omega)).tr (am_fr.st e5 (by omega) (by omega))).tr (am_fr.st e8 (by omega) (by omega))).tr (am_fr.st e11 (by omega) (by omega)))⟩

set_option maxHeartbeats 1000000 in
theorem c_X4_losesCorner {w : am_w} {h : AH} {l : Nat} {ax ay bx by' lp lc l1 l2 : Int} (hL : LN h l ax ay bx by' lp lc l1 l2) (q1 : -1 ≤ lp ∧ lp ≤ 100) (q2 : -1 ≤ lc ∧ lc ≤ 100) (q3 : -1 ≤ l1 ∧ l1 ≤ 100) (q4 : -1 ≤ l2 ∧ l2 ≤ 100) {p k : Int} (q5 : -1 ≤ p ∧ p ≤ 100) (q6 : -1 ≤ k ∧ k ≤ 100)  : AE w m_X4_losesCorner 1 [vr l, vi p, vi k] h (am_intp h (fun z => am_b z (p = lp ∧ k = lc))) := by
  refine AE.of wf_X4_losesCorner (Nat.le_of_ble_eq_true rfl) (am_ok_zp (fun z q => am_bz q)) ?_
  have hL := hL
  unfold LN at hL
  refine q_blk (lv2 := [(0, vr l), (1, vi p), (2, vi k)]) (st2 := [vr l, vi p]) kX4_losesCorner_0 rfl ?_
  refine q_gi eX4_losesCorner_2 fl_RX4_24 (Or.inl rfl) hL (z := lp) rfl ?_
  refine AQ.ic_ne (tgt := 20) eX4_losesCorner_5 (by decide) (by first | assumption | exact ⟨by omega, by omega⟩) (by first | assumption | exact ⟨by omega, by omega⟩) (fun br1 => ?_) (fun br1 => ?_)
  · skip
    refine q_blk (lv2 := [(0, vr l), (1, vi p), (2, vi k)]) (st2 := [vi 0]) kX4_losesCorner_20 rfl ?_
    exact q_rz rfl eX4_losesCorner_21 (by decide) ⟨0, rfl, Or.inr ⟨rfl, by omega⟩, rfl⟩
  · skip
    refine q_blk (lv2 := [(0, vr l), (1, vi p), (2, vi k)]) (st2 := [vr l, vi k]) kX4_losesCorner_8 rfl ?_
    refine q_gi eX4_losesCorner_10 fl_RX4_27 (Or.inl rfl) hL (z := lc) rfl ?_
    refine AQ.ic_ne (tgt := 20) eX4_losesCorner_13 (by decide) (by first | assumption | exact ⟨by omega, by omega⟩) (by first | assumption | exact ⟨by omega, by omega⟩) (fun br2 => ?_) (fun br2 => ?_)
    · skip
      refine q_blk (lv2 := [(0, vr l), (1, vi p), (2, vi k)]) (st2 := [vi 0]) kX4_losesCorner_20 rfl ?_
      exact q_rz rfl eX4_losesCorner_21 (by decide) ⟨0, rfl, Or.inr ⟨rfl, by omega⟩, rfl⟩
    · skip
      refine q_blk (lv2 := [(0, vr l), (1, vi p), (2, vi k)]) (st2 := [vi 1]) kX4_losesCorner_16 rfl ?_
      refine q_goto (tgt := 21) eX4_losesCorner_17 (by decide) ?_
      exact q_rz rfl eX4_losesCorner_21 (by decide) ⟨1, rfl, Or.inl ⟨rfl, by omega⟩, rfl⟩

set_option maxHeartbeats 1000000 in
theorem c_X4_losesSide {w : am_w} {h : AH} {l : Nat} {ax ay bx by' lp lc l1 l2 : Int} (hL : LN h l ax ay bx by' lp lc l1 l2) (q1 : -1 ≤ lp ∧ lp ≤ 100) (q2 : -1 ≤ lc ∧ lc ≤ 100) (q3 : -1 ≤ l1 ∧ l1 ≤ 100) (q4 : -1 ≤ l2 ∧ l2 ≤ 100) {p k : Int} (q5 : -1 ≤ p ∧ p ≤ 100) (q6 : -1 ≤ k ∧ k ≤ 100)  : AE w m_X4_losesSide 1 [vr l, vi p, vi k] h (am_intp h (fun z => am_b z (p = lp ∧ (k = l1 ∨ k = l2)))) := by
  refine AE.of wf_X4_losesSide (Nat.le_of_ble_eq_true rfl) (am_ok_zp (fun z q => am_bz q)) ?_
  have hL := hL
  unfold LN at hL
  refine q_blk (lv2 := [(0, vr l), (1, vi p), (2, vi k)]) (st2 := [vr l, vi p]) kX4_losesSide_0 rfl ?_
  refine q_gi eX4_losesSide_2 fl_RX4_24 (Or.inl rfl) hL (z := lp) rfl ?_
  refine AQ.ic_ne (tgt := 28) eX4_losesSide_5 (by decide) (by first | assumption | exact ⟨by omega, by omega⟩) (by first | assumption | exact ⟨by omega, by omega⟩) (fun br1 => ?_) (fun br1 => ?_)
  · skip
    refine q_blk (lv2 := [(0, vr l), (1, vi p), (2, vi k)]) (st2 := [vi 0]) kX4_losesSide_28 rfl ?_
    exact q_rz rfl eX4_losesSide_29 (by decide) ⟨0, rfl, Or.inr ⟨rfl, by omega⟩, rfl⟩
  · skip
    refine q_blk (lv2 := [(0, vr l), (1, vi p), (2, vi k)]) (st2 := [vr l, vi k]) kX4_losesSide_8 rfl ?_
    refine q_gi eX4_losesSide_10 fl_RX4_30 (Or.inl rfl) hL (z := l1) rfl ?_
    refine AQ.ic_eq (tgt := 24) eX4_losesSide_13 (by decide) (by first | assumption | exact ⟨by omega, by omega⟩) (by first | assumption | exact ⟨by omega, by omega⟩) (fun br2 => ?_) (fun br2 => ?_)
    · skip
      refine q_blk (lv2 := [(0, vr l), (1, vi p), (2, vi k)]) (st2 := [vi 1]) kX4_losesSide_24 rfl ?_
      refine q_goto (tgt := 29) eX4_losesSide_25 (by decide) ?_
      exact q_rz rfl eX4_losesSide_29 (by decide) ⟨1, rfl, Or.inl ⟨rfl, by omega⟩, rfl⟩
    · skip
      refine q_blk (lv2 := [(0, vr l), (1, vi p), (2, vi k)]) (st2 := [vr l, vi k]) kX4_losesSide_16 rfl ?_
      refine q_gi eX4_losesSide_18 fl_RX4_33 (Or.inl rfl) hL (z := l2) rfl ?_
      refine AQ.ic_ne (tgt := 28) eX4_losesSide_21 (by decide) (by first | assumption | exact ⟨by omega, by omega⟩) (by first | assumption | exact ⟨by omega, by omega⟩) (fun br3 => ?_) (fun br3 => ?_)
      · skip
        refine q_blk (lv2 := [(0, vr l), (1, vi p), (2, vi k)]) (st2 := [vi 0]) kX4_losesSide_28 rfl ?_
        exact q_rz rfl eX4_losesSide_29 (by decide) ⟨0, rfl, Or.inr ⟨rfl, by omega⟩, rfl⟩
      · skip
        refine q_blk (lv2 := [(0, vr l), (1, vi p), (2, vi k)]) (st2 := [vi 1]) kX4_losesSide_24 rfl ?_
        refine q_goto (tgt := 29) eX4_losesSide_25 (by decide) ?_
        exact q_rz rfl eX4_losesSide_29 (by decide) ⟨1, rfl, Or.inl ⟨rfl, by omega⟩, rfl⟩

set_option maxHeartbeats 1000000 in
theorem c_X4_endsAt {w : am_w} {h : AH} {l : Nat} {ax ay bx by' lp lc l1 l2 : Int} (hL : LN h l ax ay bx by' lp lc l1 l2) (h_ax : am_c ax) (h_ay : am_c ay) (h_bx : am_c bx) (h_by : am_c by') {x y : Int} (h_x : am_c x) (h_y : am_c y)  : AE w m_X4_endsAt 1 [vr l, vi x, vi y] h (am_intp h (fun z => am_b z (gm_we ax ay bx by' x y))) := by
  refine AE.of wf_X4_endsAt (Nat.le_of_ble_eq_true rfl) (am_ok_zp (fun z q => am_bz q)) ?_
  have hL := id hL
  unfold LN at hL
  have r1 := h_ax
  have r2 := h_ay
  have r3 := h_bx
  have r4 := h_by
  unfold am_c at r1 r2 r3 r4
  have r5 := h_x
  have r6 := h_y
  unfold am_c at r5 r6
  refine q_blk (lv2 := [(0, vr l), (1, vi x), (2, vi y)]) (st2 := [vr l, vi x]) kX4_endsAt_0 rfl ?_
  refine q_gi eX4_endsAt_2 fl_RX4_9 (Or.inl rfl) hL (z := ax) rfl ?_
  refine AQ.ic_ne (tgt := 16) eX4_endsAt_5 (by decide) (by first | assumption | exact ⟨by omega, by omega⟩) (by first | assumption | exact ⟨by omega, by omega⟩) (fun br1 => ?_) (fun br1 => ?_)
  · skip
    refine q_blk (lv2 := [(0, vr l), (1, vi x), (2, vi y)]) (st2 := [vr l, vi x]) kX4_endsAt_16 rfl ?_
    refine q_gi eX4_endsAt_18 fl_RX4_18 (Or.inl rfl) hL (z := bx) rfl ?_
    refine AQ.ic_ne (tgt := 36) eX4_endsAt_21 (by decide) (by first | assumption | exact ⟨by omega, by omega⟩) (by first | assumption | exact ⟨by omega, by omega⟩) (fun br2 => ?_) (fun br2 => ?_)
    · skip
      refine q_blk (lv2 := [(0, vr l), (1, vi x), (2, vi y)]) (st2 := [vi 0]) kX4_endsAt_36 rfl ?_
      exact q_rz rfl eX4_endsAt_37 (by decide) ⟨0, rfl, Or.inr ⟨rfl, by unfold gm_we; omega⟩, rfl⟩
    · skip
      refine q_blk (lv2 := [(0, vr l), (1, vi x), (2, vi y)]) (st2 := [vr l, vi y]) kX4_endsAt_24 rfl ?_
      refine q_gi eX4_endsAt_26 fl_RX4_21 (Or.inl rfl) hL (z := by') rfl ?_
      refine AQ.ic_ne (tgt := 36) eX4_endsAt_29 (by decide) (by first | assumption | exact ⟨by omega, by omega⟩) (by first | assumption | exact ⟨by omega, by omega⟩) (fun br3 => ?_) (fun br3 => ?_)
      · skip
        refine q_blk (lv2 := [(0, vr l), (1, vi x), (2, vi y)]) (st2 := [vi 0]) kX4_endsAt_36 rfl ?_
        exact q_rz rfl eX4_endsAt_37 (by decide) ⟨0, rfl, Or.inr ⟨rfl, by unfold gm_we; omega⟩, rfl⟩
      · skip
        refine q_blk (lv2 := [(0, vr l), (1, vi x), (2, vi y)]) (st2 := [vi 1]) kX4_endsAt_32 rfl ?_
        refine q_goto (tgt := 37) eX4_endsAt_33 (by decide) ?_
        exact q_rz rfl eX4_endsAt_37 (by decide) ⟨1, rfl, Or.inl ⟨rfl, by unfold gm_we; omega⟩, rfl⟩
  · skip
    refine q_blk (lv2 := [(0, vr l), (1, vi x), (2, vi y)]) (st2 := [vr l, vi y]) kX4_endsAt_8 rfl ?_
    refine q_gi eX4_endsAt_10 fl_RX4_15 (Or.inl rfl) hL (z := ay) rfl ?_
    refine AQ.ic_eq (tgt := 32) eX4_endsAt_13 (by decide) (by first | assumption | exact ⟨by omega, by omega⟩) (by first | assumption | exact ⟨by omega, by omega⟩) (fun br4 => ?_) (fun br4 => ?_)
    · skip
      refine q_blk (lv2 := [(0, vr l), (1, vi x), (2, vi y)]) (st2 := [vi 1]) kX4_endsAt_32 rfl ?_
      refine q_goto (tgt := 37) eX4_endsAt_33 (by decide) ?_
      exact q_rz rfl eX4_endsAt_37 (by decide) ⟨1, rfl, Or.inl ⟨rfl, by unfold gm_we; omega⟩, rfl⟩
    · skip
      refine q_blk (lv2 := [(0, vr l), (1, vi x), (2, vi y)]) (st2 := [vr l, vi x]) kX4_endsAt_16 rfl ?_
      refine q_gi eX4_endsAt_18 fl_RX4_18 (Or.inl rfl) hL (z := bx) rfl ?_
      refine AQ.ic_ne (tgt := 36) eX4_endsAt_21 (by decide) (by first | assumption | exact ⟨by omega, by omega⟩) (by first | assumption | exact ⟨by omega, by omega⟩) (fun br5 => ?_) (fun br5 => ?_)
      · skip
        refine q_blk (lv2 := [(0, vr l), (1, vi x), (2, vi y)]) (st2 := [vi 0]) kX4_endsAt_36 rfl ?_
        exact q_rz rfl eX4_endsAt_37 (by decide) ⟨0, rfl, Or.inr ⟨rfl, by unfold gm_we; omega⟩, rfl⟩
      · skip
        refine q_blk (lv2 := [(0, vr l), (1, vi x), (2, vi y)]) (st2 := [vr l, vi y]) kX4_endsAt_24 rfl ?_
        refine q_gi eX4_endsAt_26 fl_RX4_21 (Or.inl rfl) hL (z := by') rfl ?_
        refine AQ.ic_ne (tgt := 36) eX4_endsAt_29 (by decide) (by first | assumption | exact ⟨by omega, by omega⟩) (by first | assumption | exact ⟨by omega, by omega⟩) (fun br6 => ?_) (fun br6 => ?_)
        · skip
          refine q_blk (lv2 := [(0, vr l), (1, vi x), (2, vi y)]) (st2 := [vi 0]) kX4_endsAt_36 rfl ?_
          exact q_rz rfl eX4_endsAt_37 (by decide) ⟨0, rfl, Or.inr ⟨rfl, by unfold gm_we; omega⟩, rfl⟩
        · skip
          refine q_blk (lv2 := [(0, vr l), (1, vi x), (2, vi y)]) (st2 := [vi 1]) kX4_endsAt_32 rfl ?_
          refine q_goto (tgt := 37) eX4_endsAt_33 (by decide) ?_
          exact q_rz rfl eX4_endsAt_37 (by decide) ⟨1, rfl, Or.inl ⟨rfl, by unfold gm_we; omega⟩, rfl⟩

set_option maxHeartbeats 1000000 in
theorem c_X4_holds {w : am_w} {h : AH} {l : Nat} {ax ay bx by' lp lc l1 l2 : Int} (hL : LN h l ax ay bx by' lp lc l1 l2) (h_ax : am_c ax) (h_ay : am_c ay) (h_bx : am_c bx) (h_by : am_c by') {x y : Int} (h_x : am_c x) (h_y : am_c y)  : AE w m_X4_holds 2 [vr l, vi x, vi y] h (am_intp h (fun z => am_b z (gm_on ax ay bx by' x y))) := by
  refine AE.of wf_X4_holds (Nat.le_of_ble_eq_true rfl) (am_ok_zp (fun z q => am_bz q)) ?_
  have hL := id hL
  unfold LN at hL
  have r1 := h_ax
  have r2 := h_ay
  have r3 := h_bx
  have r4 := h_by
  unfold am_c at r1 r2 r3 r4
  have r5 := h_x
  have r6 := h_y
  unfold am_c at r5 r6
  refine q_blk (lv2 := [(0, vr l), (1, vi x), (2, vi y)]) (st2 := [vr l]) kX4_holds_0 rfl ?_
  refine q_gi eX4_holds_1 fl_RX4_9 (Or.inl rfl) hL (z := ax) rfl ?_
  refine q_blk (lv2 := [(0, vr l), (1, vi x), (2, vi y)]) (st2 := [vr l, vi ax]) kX4_holds_4 rfl ?_
  refine q_gi eX4_holds_5 fl_RX4_15 (Or.inl rfl) hL (z := ay) rfl ?_
  refine q_blk (lv2 := [(0, vr l), (1, vi x), (2, vi y)]) (st2 := [vr l, vi ay, vi ax]) kX4_holds_8 rfl ?_
  refine q_gi eX4_holds_9 fl_RX4_18 (Or.inl rfl) hL (z := bx) rfl ?_
  refine q_blk (lv2 := [(0, vr l), (1, vi x), (2, vi y)]) (st2 := [vr l, vi bx, vi ay, vi ax]) kX4_holds_12 rfl ?_
  refine q_gi eX4_holds_13 fl_RX4_21 (Or.inl rfl) hL (z := by') rfl ?_
  refine q_blk (lv2 := [(0, vr l), (1, vi x), (2, vi y)]) (st2 := [vi y, vi x, vi by', vi bx, vi ay, vi ax]) kX4_holds_16 rfl ?_
  refine q_Si (av := [vi ax, vi ay, vi bx, vi by', vi x, vi y]) (st := []) (c_X1_isOnSegment h_ax h_ay h_bx h_by h_x h_y) lk_RX4_36 (by decide) rfl rfl (Nat.le_of_ble_eq_true rfl) eX4_holds_18 (fun z1 e2 => ?_)
  have e2r : z1 = 0 ∨ z1 = 1 := by rcases e2 with q | q; exact Or.inr q.1; exact Or.inl q.1
  exact q_rz rfl eX4_holds_21 (by omega) ⟨z1, rfl, e2, rfl⟩

set_option maxHeartbeats 1000000 in
theorem c_X4_goesAlong {w : am_w} {h : AH} {l : Nat} {ax ay bx by' lp lc l1 l2 : Int} (hL : LN h l ax ay bx by' lp lc l1 l2) (h_ax : am_c ax) (h_ay : am_c ay) (h_bx : am_c bx) (h_by : am_c by') {x y : Int} (h_x : am_c x) (h_y : am_c y) {ox oy tx ty : Int} (h_ox : am_c ox) (h_oy : am_c oy) (h_tx : am_c tx) (h_ty : am_c ty) (ht : (x = ax ∧ y = ay ∧ tx = bx ∧ ty = by') ∨ (¬ (x = ax ∧ y = ay) ∧ tx = ax ∧ ty = ay))  : AE w m_X4_goesAlong 2 [vr l, vi x, vi y, vi ox, vi oy] h (am_intp h (fun z => am_b z (gm_al x y tx ty ox oy))) := by
  refine AE.of wf_X4_goesAlong (Nat.le_of_ble_eq_true rfl) (am_ok_zp (fun z q => am_bz q)) ?_
  have hL := id hL
  unfold LN at hL
  have r1 := h_ax
  have r2 := h_ay
  have r3 := h_bx
  have r4 := h_by
  unfold am_c at r1 r2 r3 r4
  have r5 := h_x
  have r6 := h_y
  unfold am_c at r5 r6
  have g1 := am_cc h_tx h_x h_oy h_y
  have g2 := am_cc h_ty h_y h_ox h_x
  have g3 := am_cc h_tx h_x h_ox h_x
  have g4 := am_cc h_ty h_y h_oy h_y
  have jn21 : ∀ (j : Int), ((j = 1 ∧ x = ax ∧ y = ay) ∨ (j = 0 ∧ ¬ (x = ax ∧ y = ay))) → AQ w m_X4_goesAlong 2 21 [(0, vr l), (1, vi x), (2, vi y), (3, vi ox), (4, vi oy)] [vi j] h (am_intp h (fun z => am_b z (gm_al x y tx ty ox oy))) := by
    intro j hj
    refine q_blk (lv2 := [(0, vr l), (1, vi x), (2, vi y), (3, vi ox), (4, vi oy), (5, vi j)]) (st2 := [vi j]) kX4_goesAlong_21 rfl ?_
    have jn39 : ∀ (tx9 : Int), tx = tx9 → AQ w m_X4_goesAlong 2 39 [(0, vr l), (1, vi x), (2, vi y), (3, vi ox), (4, vi oy), (5, vi j)] [vi tx9] h (am_intp h (fun z => am_b z (gm_al x y tx ty ox oy))) := by
      intro tx9 hj2
      subst hj2
      refine q_blk (lv2 := [(0, vr l), (1, vi x), (2, vi y), (3, vi ox), (4, vi oy), (5, vi j), (6, vi (tx - x))]) (st2 := [vi j]) kX4_goesAlong_39 rfl ?_
      have jn59 : ∀ (ty9 : Int), ty = ty9 → AQ w m_X4_goesAlong 2 59 [(0, vr l), (1, vi x), (2, vi y), (3, vi ox), (4, vi oy), (5, vi j), (6, vi (tx - x))] [vi ty9] h (am_intp h (fun z => am_b z (gm_al x y tx ty ox oy))) := by
        intro ty9 hj3
        subst hj3
        refine q_blk (lv2 := [(0, vr l), (1, vi x), (2, vi y), (3, vi ox), (4, vi oy), (5, vi j), (6, vi (tx - x)), (7, vi (ty - y)), (8, vi (ox - x)), (9, vi (oy - y))]) (st2 := [vi ((ty - y) * (ox - x)), vi ((tx - x) * (oy - y))]) kX4_goesAlong_59 rfl ?_
        refine AQ.ic_ne (tgt := 105) eX4_goesAlong_84 (by decide) (by first | assumption | exact ⟨by omega, by omega⟩) (by first | assumption | exact ⟨by omega, by omega⟩) (fun br1 => ?_) (fun br1 => ?_)
        · skip
          refine q_blk (lv2 := [(0, vr l), (1, vi x), (2, vi y), (3, vi ox), (4, vi oy), (5, vi j), (6, vi (tx - x)), (7, vi (ty - y)), (8, vi (ox - x)), (9, vi (oy - y))]) (st2 := [vi 0]) kX4_goesAlong_105 rfl ?_
          exact q_rz rfl eX4_goesAlong_106 (by decide) ⟨0, rfl, Or.inr ⟨rfl, by unfold gm_al; omega⟩, rfl⟩
        · skip
          refine q_blk (lv2 := [(0, vr l), (1, vi x), (2, vi y), (3, vi ox), (4, vi oy), (5, vi j), (6, vi (tx - x)), (7, vi (ty - y)), (8, vi (ox - x)), (9, vi (oy - y))]) (st2 := [vi (((tx - x) * (ox - x)) + ((ty - y) * (oy - y)))]) kX4_goesAlong_87 rfl ?_
          refine AQ.if_le (tgt := 105) eX4_goesAlong_98 (by decide) (by first | assumption | exact ⟨by omega, by omega⟩) (fun br2 => ?_) (fun br2 => ?_)
          · skip
            refine q_blk (lv2 := [(0, vr l), (1, vi x), (2, vi y), (3, vi ox), (4, vi oy), (5, vi j), (6, vi (tx - x)), (7, vi (ty - y)), (8, vi (ox - x)), (9, vi (oy - y))]) (st2 := [vi 0]) kX4_goesAlong_105 rfl ?_
            exact q_rz rfl eX4_goesAlong_106 (by decide) ⟨0, rfl, Or.inr ⟨rfl, by unfold gm_al; omega⟩, rfl⟩
          · skip
            refine q_blk (lv2 := [(0, vr l), (1, vi x), (2, vi y), (3, vi ox), (4, vi oy), (5, vi j), (6, vi (tx - x)), (7, vi (ty - y)), (8, vi (ox - x)), (9, vi (oy - y))]) (st2 := [vi 1]) kX4_goesAlong_101 rfl ?_
            refine q_goto (tgt := 106) eX4_goesAlong_102 (by decide) ?_
            exact q_rz rfl eX4_goesAlong_106 (by decide) ⟨1, rfl, Or.inl ⟨rfl, by unfold gm_al; omega⟩, rfl⟩
      refine AQ.if_eq (tgt := 55) eX4_goesAlong_45 (by decide) (by first | assumption | exact ⟨by omega, by omega⟩) (fun br3 => ?_) (fun br3 => ?_)
      · skip
        refine q_blk (lv2 := [(0, vr l), (1, vi x), (2, vi y), (3, vi ox), (4, vi oy), (5, vi j), (6, vi (tx - x))]) (st2 := [vr l]) kX4_goesAlong_55 rfl ?_
        refine q_gi eX4_goesAlong_56 fl_RX4_15 (Or.inl rfl) hL (z := ay) rfl ?_
        exact jn59 ay (by omega)
      · skip
        refine q_blk (lv2 := [(0, vr l), (1, vi x), (2, vi y), (3, vi ox), (4, vi oy), (5, vi j), (6, vi (tx - x))]) (st2 := [vr l]) kX4_goesAlong_48 rfl ?_
        refine q_gi eX4_goesAlong_49 fl_RX4_21 (Or.inl rfl) hL (z := by') rfl ?_
        refine q_goto (tgt := 59) eX4_goesAlong_52 (by decide) ?_
        exact jn59 by' (by omega)
    refine AQ.if_eq (tgt := 35) eX4_goesAlong_25 (by decide) (by first | assumption | exact ⟨by omega, by omega⟩) (fun br4 => ?_) (fun br4 => ?_)
    · skip
      refine q_blk (lv2 := [(0, vr l), (1, vi x), (2, vi y), (3, vi ox), (4, vi oy), (5, vi j)]) (st2 := [vr l]) kX4_goesAlong_35 rfl ?_
      refine q_gi eX4_goesAlong_36 fl_RX4_9 (Or.inl rfl) hL (z := ax) rfl ?_
      exact jn39 ax (by omega)
    · skip
      refine q_blk (lv2 := [(0, vr l), (1, vi x), (2, vi y), (3, vi ox), (4, vi oy), (5, vi j)]) (st2 := [vr l]) kX4_goesAlong_28 rfl ?_
      refine q_gi eX4_goesAlong_29 fl_RX4_18 (Or.inl rfl) hL (z := bx) rfl ?_
      refine q_goto (tgt := 39) eX4_goesAlong_32 (by decide) ?_
      exact jn39 bx (by omega)
  refine q_blk (lv2 := [(0, vr l), (1, vi x), (2, vi y), (3, vi ox), (4, vi oy)]) (st2 := [vr l, vi x]) kX4_goesAlong_0 rfl ?_
  refine q_gi eX4_goesAlong_2 fl_RX4_9 (Or.inl rfl) hL (z := ax) rfl ?_
  refine AQ.ic_ne (tgt := 20) eX4_goesAlong_5 (by decide) (by first | assumption | exact ⟨by omega, by omega⟩) (by first | assumption | exact ⟨by omega, by omega⟩) (fun br5 => ?_) (fun br5 => ?_)
  · skip
    refine q_blk (lv2 := [(0, vr l), (1, vi x), (2, vi y), (3, vi ox), (4, vi oy)]) (st2 := [vi 0]) kX4_goesAlong_20 rfl ?_
    exact jn21 0 (by omega)
  · skip
    refine q_blk (lv2 := [(0, vr l), (1, vi x), (2, vi y), (3, vi ox), (4, vi oy)]) (st2 := [vr l, vi y]) kX4_goesAlong_8 rfl ?_
    refine q_gi eX4_goesAlong_10 fl_RX4_15 (Or.inl rfl) hL (z := ay) rfl ?_
    refine AQ.ic_ne (tgt := 20) eX4_goesAlong_13 (by decide) (by first | assumption | exact ⟨by omega, by omega⟩) (by first | assumption | exact ⟨by omega, by omega⟩) (fun br6 => ?_) (fun br6 => ?_)
    · skip
      refine q_blk (lv2 := [(0, vr l), (1, vi x), (2, vi y), (3, vi ox), (4, vi oy)]) (st2 := [vi 0]) kX4_goesAlong_20 rfl ?_
      exact jn21 0 (by omega)
    · skip
      refine q_blk (lv2 := [(0, vr l), (1, vi x), (2, vi y), (3, vi ox), (4, vi oy)]) (st2 := [vi 1]) kX4_goesAlong_16 rfl ?_
      refine q_goto (tgt := 21) eX4_goesAlong_17 (by decide) ?_
      exact jn21 1 (by omega)

theorem gm_mt_c {ax ay bx by' cx cy dx dy tx ty : Int} (hab : bx ≠ ax ∨ by' ≠ ay) (hcd : dx ≠ cx ∨ dy ≠ cy) (hc : gm_we ax ay bx by' cx cy) (ht : (cx = ax ∧ cy = ay ∧ tx = bx ∧ ty = by') ∨ (¬ (cx = ax ∧ cy = ay) ∧ tx = ax ∧ ty = ay)) : gm_mt ax ay bx by' cx cy dx dy ↔ gm_al cx cy tx ty dx dy := by
  rcases ht with ⟨rfl, rfl, rfl, rfl⟩ | ⟨h, rfl, rfl⟩
  · exact gm_mt_al hab hcd
  · obtain ⟨rfl, rfl⟩ : cx = bx ∧ cy = by' := by unfold gm_we at hc; omega
    exact Iff.trans ⟨gm_mt_ws, gm_mt_ws⟩ (gm_mt_al (by omega) hcd)
theorem gm_mt_d {ax ay bx by' cx cy dx dy tx ty : Int} (hab : bx ≠ ax ∨ by' ≠ ay) (hcd : dx ≠ cx ∨ dy ≠ cy) (hc : gm_we ax ay bx by' dx dy) (ht : (dx = ax ∧ dy = ay ∧ tx = bx ∧ ty = by') ∨ (¬ (dx = ax ∧ dy = ay) ∧ tx = ax ∧ ty = ay)) : gm_mt ax ay bx by' cx cy dx dy ↔ gm_al dx dy tx ty cx cy :=
  Iff.trans ⟨gm_mt_sw, gm_mt_sw⟩ (gm_mt_c hab (by omega) hc ht)
theorem gm_tt {ax ay bx by' : Int} (x y : Int) (h_ax : am_c ax) (h_ay : am_c ay) (h_bx : am_c bx) (h_by : am_c by') : ∃ tx ty, ((x = ax ∧ y = ay ∧ tx = bx ∧ ty = by') ∨ (¬ (x = ax ∧ y = ay) ∧ tx = ax ∧ ty = ay)) ∧ am_c tx ∧ am_c ty := by
  by_cases q : x = ax ∧ y = ay
  · exact ⟨bx, by', Or.inl ⟨q.1, q.2, rfl, rfl⟩, h_bx, h_by⟩
  · exact ⟨ax, ay, Or.inr ⟨q, rfl, rfl⟩, h_ax, h_ay⟩

theorem am_b_iff {z : Int} {P Q : Prop} (h : P ↔ Q) (e : am_b z Q) : am_b z P := e.imp (fun q => ⟨q.1, h.mpr q.2⟩) (fun q => ⟨q.1, fun x => q.2 (h.mp x)⟩)

theorem am_b_or {i j : Int} {P Q : Prop} (h1 : am_b j P) (h2 : am_b i Q) (h : j ≠ 0 ∨ i ≠ 0) : P ∨ Q := by
  rcases h1 with q | q
  · exact Or.inl q.2
  · rcases h2 with r | r
    · exact Or.inr r.2
    · omega
theorem am_b_nor {i j : Int} {P Q : Prop} (h1 : am_b j P) (h2 : am_b i Q) (h3 : j = 0) (h4 : i = 0) : ¬ (P ∨ Q) := by
  rcases h1 with q | q
  · omega
  · rcases h2 with r | r
    · omega
    · exact fun z => z.elim q.2 r.2
theorem am_mul1800 {a b : Int} (h1 : -1800 ≤ a) (h2 : a ≤ 1800) (h3 : -1800 ≤ b) (h4 : b ≤ 1800) : -3240000 ≤ a * b ∧ a * b ≤ 3240000 := by
  have e1 : 0 ≤ (1800 - a) * (1800 - b) := Int.mul_nonneg (by omega) (by omega)
  have e2 : 0 ≤ (1800 + a) * (1800 + b) := Int.mul_nonneg (by omega) (by omega)
  have e3 : 0 ≤ (1800 - a) * (1800 + b) := Int.mul_nonneg (by omega) (by omega)
  have e4 : 0 ≤ (1800 + a) * (1800 - b) := Int.mul_nonneg (by omega) (by omega)
  grind

set_option maxHeartbeats 1000000 in
theorem c_X4_meets {w : am_w} {h : AH} {l : Nat} {ax ay bx by' lp lc l1 l2 : Int} (hL : LN h l ax ay bx by' lp lc l1 l2) (h_ax : am_c ax) (h_ay : am_c ay) (h_bx : am_c bx) (h_by : am_c by') {cx cy dx dy : Int} (h_cx : am_c cx) (h_cy : am_c cy) (h_dx : am_c dx) (h_dy : am_c dy) (hab : bx ≠ ax ∨ by' ≠ ay) (hcd : dx ≠ cx ∨ dy ≠ cy)  : AE w m_X4_meets 3 [vr l, vi cx, vi cy, vi dx, vi dy] h (am_intp h (fun z => am_b z (gm_mt ax ay bx by' cx cy dx dy))) := by
  refine AE.of wf_X4_meets (Nat.le_of_ble_eq_true rfl) (am_ok_zp (fun z q => am_bz q)) ?_
  have hL0 := hL
  have hL := id hL
  unfold LN at hL
  have r1 := h_ax
  have r2 := h_ay
  have r3 := h_bx
  have r4 := h_by
  unfold am_c at r1 r2 r3 r4
  have s1 := h_cx
  have s2 := h_cy
  have s3 := h_dx
  have s4 := h_dy
  unfold am_c at s1 s2 s3 s4
  refine q_blk (lv2 := [(0, vr l), (1, vi cx), (2, vi cy), (3, vi dx), (4, vi dy)]) (st2 := [vi cy, vi cx, vr l]) kX4_meets_0 rfl ?_
  refine q_Vi (av := [vi cx, vi cy]) (st := []) (c_X4_endsAt hL0 h_ax h_ay h_bx h_by h_cx h_cy) lk_RX4_42 (by decide) rfl rfl hL0.ob ⟨_, rfl, rfl⟩ (Nat.le_of_ble_eq_true rfl) eX4_meets_3 (fun z1 e2 => ?_)
  rcases e2 with ⟨rfl, e2⟩ | ⟨rfl, e2⟩
  · skip
    refine AQ.of (AS.if_eq_f eX4_meets_6 ⟨by decide, by decide⟩ (by decide) (by decide)) ?_
    obtain ⟨tx, ty, ht, h_tx, h_ty⟩ := gm_tt cx cy h_ax h_ay h_bx h_by
    refine q_blk (lv2 := [(0, vr l), (1, vi cx), (2, vi cy), (3, vi dx), (4, vi dy)]) (st2 := [vi dy, vi dx, vi cy, vi cx, vr l]) kX4_meets_9 rfl ?_
    refine q_Vi (av := [vi cx, vi cy, vi dx, vi dy]) (st := []) (c_X4_goesAlong hL0 h_ax h_ay h_bx h_by h_cx h_cy h_dx h_dy h_tx h_ty ht) lk_RX4_46 (by decide) rfl rfl hL0.ob ⟨_, rfl, rfl⟩ (Nat.le_of_ble_eq_true rfl) eX4_meets_15 (fun z3 e4 => ?_)
    have e4r : z3 = 0 ∨ z3 = 1 := by rcases e4 with q | q; exact Or.inr q.1; exact Or.inl q.1
    exact q_rz rfl eX4_meets_18 (by omega) ⟨z3, rfl, am_b_iff (gm_mt_c hab hcd e2 ht) e4, rfl⟩
  · skip
    refine AQ.of (AS.if_eq_t (tgt := 19) eX4_meets_6 (by decide) ⟨by decide, by decide⟩ (by decide)) ?_
    have hnc := e2
    refine q_blk (lv2 := [(0, vr l), (1, vi cx), (2, vi cy), (3, vi dx), (4, vi dy)]) (st2 := [vi dy, vi dx, vr l]) kX4_meets_19 rfl ?_
    refine q_Vi (av := [vi dx, vi dy]) (st := []) (c_X4_endsAt hL0 h_ax h_ay h_bx h_by h_dx h_dy) lk_RX4_42 (by decide) rfl rfl hL0.ob ⟨_, rfl, rfl⟩ (Nat.le_of_ble_eq_true rfl) eX4_meets_23 (fun z5 e6 => ?_)
    rcases e6 with ⟨rfl, e6⟩ | ⟨rfl, e6⟩
    · skip
      refine AQ.of (AS.if_eq_f eX4_meets_26 ⟨by decide, by decide⟩ (by decide) (by decide)) ?_
      obtain ⟨tx, ty, ht, h_tx, h_ty⟩ := gm_tt dx dy h_ax h_ay h_bx h_by
      refine q_blk (lv2 := [(0, vr l), (1, vi cx), (2, vi cy), (3, vi dx), (4, vi dy)]) (st2 := [vi cy, vi cx, vi dy, vi dx, vr l]) kX4_meets_29 rfl ?_
      refine q_Vi (av := [vi dx, vi dy, vi cx, vi cy]) (st := []) (c_X4_goesAlong hL0 h_ax h_ay h_bx h_by h_dx h_dy h_cx h_cy h_tx h_ty ht) lk_RX4_46 (by decide) rfl rfl hL0.ob ⟨_, rfl, rfl⟩ (Nat.le_of_ble_eq_true rfl) eX4_meets_35 (fun z7 e8 => ?_)
      have e8r : z7 = 0 ∨ z7 = 1 := by rcases e8 with q | q; exact Or.inr q.1; exact Or.inl q.1
      exact q_rz rfl eX4_meets_38 (by omega) ⟨z7, rfl, am_b_iff (gm_mt_d hab hcd e6 ht) e8, rfl⟩
    · skip
      refine AQ.of (AS.if_eq_t (tgt := 39) eX4_meets_26 (by decide) ⟨by decide, by decide⟩ (by decide)) ?_
      refine q_blk (lv2 := [(0, vr l), (1, vi cx), (2, vi cy), (3, vi dx), (4, vi dy)]) (st2 := [vr l]) kX4_meets_39 rfl ?_
      have hnd := e6
      have jn82 : ∀ (j : Int), am_b j (gm_bp ax bx cx dx) → AQ w m_X4_meets 3 82 [(0, vr l), (1, vi cx), (2, vi cy), (3, vi dx), (4, vi dy)] [vi j] h (am_intp h (fun z => am_b z (gm_mt ax ay bx by' cx cy dx dy))) := by
        intro j hj
        have hjr : j = 0 ∨ j = 1 := by rcases hj with q | q; exact Or.inr q.1; exact Or.inl q.1
        refine q_blk (lv2 := [(0, vr l), (1, vi cx), (2, vi cy), (3, vi dx), (4, vi dy), (5, vi j)]) (st2 := [vr l]) kX4_meets_82 rfl ?_
        have jn129 : ∀ (i : Int), am_b i (gm_bp ay by' cy dy) → AQ w m_X4_meets 3 129 [(0, vr l), (1, vi cx), (2, vi cy), (3, vi dx), (4, vi dy), (5, vi j)] [vi i] h (am_intp h (fun z => am_b z (gm_mt ax ay bx by' cx cy dx dy))) := by
          intro i hi
          have hir : i = 0 ∨ i = 1 := by rcases hi with q | q; exact Or.inr q.1; exact Or.inl q.1
          refine q_blk (lv2 := [(0, vr l), (1, vi cx), (2, vi cy), (3, vi dx), (4, vi dy), (5, vi j), (6, vi i)]) (st2 := [vi j]) kX4_meets_129 rfl ?_
          refine AQ.if_ne (tgt := 141) eX4_meets_133 (by decide) (by first | assumption | exact ⟨by omega, by omega⟩) (fun br9 => ?_) (fun br9 => ?_)
          · skip
            refine q_blk (lv2 := [(0, vr l), (1, vi cx), (2, vi cy), (3, vi dx), (4, vi dy), (5, vi j), (6, vi i)]) (st2 := [vi 0]) kX4_meets_141 rfl ?_
            exact q_rz rfl eX4_meets_142 (by decide) ⟨0, rfl, Or.inr ⟨rfl, fun q => ((gm_mt_nb hab hcd hnc hnd).mp q).1 (am_b_or hj hi (by omega))⟩, rfl⟩
          · skip
            refine q_blk (lv2 := [(0, vr l), (1, vi cx), (2, vi cy), (3, vi dx), (4, vi dy), (5, vi j), (6, vi i)]) (st2 := [vi i]) kX4_meets_136 rfl ?_
            refine AQ.if_eq (tgt := 143) eX4_meets_138 (by decide) (by first | assumption | exact ⟨by omega, by omega⟩) (fun br10 => ?_) (fun br10 => ?_)
            · skip
              refine q_blk (lv2 := [(0, vr l), (1, vi cx), (2, vi cy), (3, vi dx), (4, vi dy), (5, vi j), (6, vi i)]) (st2 := [vr l]) kX4_meets_143 rfl ?_
              refine q_gi eX4_meets_144 fl_RX4_9 (Or.inl rfl) hL (z := ax) rfl ?_
              refine q_blk (lv2 := [(0, vr l), (1, vi cx), (2, vi cy), (3, vi dx), (4, vi dy), (5, vi j), (6, vi i)]) (st2 := [vr l, vi ax]) kX4_meets_147 rfl ?_
              refine q_gi eX4_meets_148 fl_RX4_15 (Or.inl rfl) hL (z := ay) rfl ?_
              refine q_blk (lv2 := [(0, vr l), (1, vi cx), (2, vi cy), (3, vi dx), (4, vi dy), (5, vi j), (6, vi i)]) (st2 := [vr l, vi ay, vi ax]) kX4_meets_151 rfl ?_
              refine q_gi eX4_meets_152 fl_RX4_18 (Or.inl rfl) hL (z := bx) rfl ?_
              refine q_blk (lv2 := [(0, vr l), (1, vi cx), (2, vi cy), (3, vi dx), (4, vi dy), (5, vi j), (6, vi i)]) (st2 := [vr l, vi bx, vi ay, vi ax]) kX4_meets_155 rfl ?_
              refine q_gi eX4_meets_156 fl_RX4_21 (Or.inl rfl) hL (z := by') rfl ?_
              refine q_blk (lv2 := [(0, vr l), (1, vi cx), (2, vi cy), (3, vi dx), (4, vi dy), (5, vi j), (6, vi i)]) (st2 := [vi cy, vi cx, vi by', vi bx, vi ay, vi ax]) kX4_meets_159 rfl ?_
              refine q_Si (av := [vi ax, vi ay, vi bx, vi by', vi cx, vi cy]) (st := []) (c_X1_turn _ _ _ _ _ _) lk_RX4_59 (by decide) rfl rfl (Nat.le_of_ble_eq_true rfl) eX4_meets_161 (fun z11 e12 => ?_)
              refine q_blk (lv2 := [(0, vr l), (1, vi cx), (2, vi cy), (3, vi dx), (4, vi dy), (5, vi j), (6, vi i), (7, vi z11)]) (st2 := [vr l]) kX4_meets_164 rfl ?_
              refine q_gi eX4_meets_167 fl_RX4_9 (Or.inl rfl) hL (z := ax) rfl ?_
              refine q_blk (lv2 := [(0, vr l), (1, vi cx), (2, vi cy), (3, vi dx), (4, vi dy), (5, vi j), (6, vi i), (7, vi z11)]) (st2 := [vr l, vi ax]) kX4_meets_170 rfl ?_
              refine q_gi eX4_meets_171 fl_RX4_15 (Or.inl rfl) hL (z := ay) rfl ?_
              refine q_blk (lv2 := [(0, vr l), (1, vi cx), (2, vi cy), (3, vi dx), (4, vi dy), (5, vi j), (6, vi i), (7, vi z11)]) (st2 := [vr l, vi ay, vi ax]) kX4_meets_174 rfl ?_
              refine q_gi eX4_meets_175 fl_RX4_18 (Or.inl rfl) hL (z := bx) rfl ?_
              refine q_blk (lv2 := [(0, vr l), (1, vi cx), (2, vi cy), (3, vi dx), (4, vi dy), (5, vi j), (6, vi i), (7, vi z11)]) (st2 := [vr l, vi bx, vi ay, vi ax]) kX4_meets_178 rfl ?_
              refine q_gi eX4_meets_179 fl_RX4_21 (Or.inl rfl) hL (z := by') rfl ?_
              refine q_blk (lv2 := [(0, vr l), (1, vi cx), (2, vi cy), (3, vi dx), (4, vi dy), (5, vi j), (6, vi i), (7, vi z11)]) (st2 := [vi dy, vi dx, vi by', vi bx, vi ay, vi ax]) kX4_meets_182 rfl ?_
              refine q_Si (av := [vi ax, vi ay, vi bx, vi by', vi dx, vi dy]) (st := []) (c_X1_turn _ _ _ _ _ _) lk_RX4_59 (by decide) rfl rfl (Nat.le_of_ble_eq_true rfl) eX4_meets_185 (fun z13 e14 => ?_)
              refine q_blk (lv2 := [(0, vr l), (1, vi cx), (2, vi cy), (3, vi dx), (4, vi dy), (5, vi j), (6, vi i), (7, vi z11), (8, vi z13)]) (st2 := [vr l, vi dy, vi dx, vi cy, vi cx]) kX4_meets_188 rfl ?_
              refine q_gi eX4_meets_196 fl_RX4_9 (Or.inl rfl) hL (z := ax) rfl ?_
              refine q_blk (lv2 := [(0, vr l), (1, vi cx), (2, vi cy), (3, vi dx), (4, vi dy), (5, vi j), (6, vi i), (7, vi z11), (8, vi z13)]) (st2 := [vr l, vi ax, vi dy, vi dx, vi cy, vi cx]) kX4_meets_199 rfl ?_
              refine q_gi eX4_meets_200 fl_RX4_15 (Or.inl rfl) hL (z := ay) rfl ?_
              refine q_Si (av := [vi cx, vi cy, vi dx, vi dy, vi ax, vi ay]) (st := []) (c_X1_turn _ _ _ _ _ _) lk_RX4_59 (by decide) rfl rfl (Nat.le_of_ble_eq_true rfl) eX4_meets_203 (fun z15 e16 => ?_)
              refine q_blk (lv2 := [(0, vr l), (1, vi cx), (2, vi cy), (3, vi dx), (4, vi dy), (5, vi j), (6, vi i), (7, vi z11), (8, vi z13), (9, vi z15)]) (st2 := [vr l, vi dy, vi dx, vi cy, vi cx]) kX4_meets_206 rfl ?_
              refine q_gi eX4_meets_214 fl_RX4_18 (Or.inl rfl) hL (z := bx) rfl ?_
              refine q_blk (lv2 := [(0, vr l), (1, vi cx), (2, vi cy), (3, vi dx), (4, vi dy), (5, vi j), (6, vi i), (7, vi z11), (8, vi z13), (9, vi z15)]) (st2 := [vr l, vi bx, vi dy, vi dx, vi cy, vi cx]) kX4_meets_217 rfl ?_
              refine q_gi eX4_meets_218 fl_RX4_21 (Or.inl rfl) hL (z := by') rfl ?_
              refine q_Si (av := [vi cx, vi cy, vi dx, vi dy, vi bx, vi by']) (st := []) (c_X1_turn _ _ _ _ _ _) lk_RX4_59 (by decide) rfl rfl (Nat.le_of_ble_eq_true rfl) eX4_meets_221 (fun z17 e18 => ?_)
              refine q_blk (lv2 := [(0, vr l), (1, vi cx), (2, vi cy), (3, vi dx), (4, vi dy), (5, vi j), (6, vi i), (7, vi z11), (8, vi z13), (9, vi z15), (10, vi z17)]) (st2 := [vi (z11 * z13)]) kX4_meets_224 rfl ?_
              have t19 := gm_turn_r h_ax h_ay h_bx h_by h_cx h_cy
              have t20 := gm_turn_r h_ax h_ay h_bx h_by h_dx h_dy
              have t21 := gm_turn_r h_cx h_cy h_dx h_dy h_ax h_ay
              have t22 := gm_turn_r h_cx h_cy h_dx h_dy h_bx h_by
              have m1 : -3240000 ≤ z11 * z13 ∧ z11 * z13 ≤ 3240000 := am_mul1800 (by omega) (by omega) (by omega) (by omega)
              have n1 : gm_turn ax ay bx by' cx cy * gm_turn ax ay bx by' dx dy = z11 * z13 := by rw [e12, e14]
              have n2 : gm_turn cx cy dx dy ax ay * gm_turn cx cy dx dy bx by' = z15 * z17 := by rw [e16, e18]
              have m2 : -3240000 ≤ z15 * z17 ∧ z15 * z17 ≤ 3240000 := am_mul1800 (by omega) (by omega) (by omega) (by omega)
              refine AQ.if_gt (tgt := 246) eX4_meets_231 (by decide) (by first | assumption | exact ⟨by omega, by omega⟩) (fun br23 => ?_) (fun br23 => ?_)
              · skip
                refine q_blk (lv2 := [(0, vr l), (1, vi cx), (2, vi cy), (3, vi dx), (4, vi dy), (5, vi j), (6, vi i), (7, vi z11), (8, vi z13), (9, vi z15), (10, vi z17)]) (st2 := [vi 0]) kX4_meets_246 rfl ?_
                exact q_rz rfl eX4_meets_247 (by decide) ⟨0, rfl, Or.inr ⟨rfl, fun q => by have := (gm_mt_nb hab hcd hnc hnd).mp q; omega⟩, rfl⟩
              · skip
                refine q_blk (lv2 := [(0, vr l), (1, vi cx), (2, vi cy), (3, vi dx), (4, vi dy), (5, vi j), (6, vi i), (7, vi z11), (8, vi z13), (9, vi z15), (10, vi z17)]) (st2 := [vi (z15 * z17)]) kX4_meets_234 rfl ?_
                refine AQ.if_gt (tgt := 246) eX4_meets_239 (by decide) (by first | assumption | exact ⟨by omega, by omega⟩) (fun br24 => ?_) (fun br24 => ?_)
                · skip
                  refine q_blk (lv2 := [(0, vr l), (1, vi cx), (2, vi cy), (3, vi dx), (4, vi dy), (5, vi j), (6, vi i), (7, vi z11), (8, vi z13), (9, vi z15), (10, vi z17)]) (st2 := [vi 0]) kX4_meets_246 rfl ?_
                  exact q_rz rfl eX4_meets_247 (by decide) ⟨0, rfl, Or.inr ⟨rfl, fun q => by have := (gm_mt_nb hab hcd hnc hnd).mp q; omega⟩, rfl⟩
                · skip
                  refine q_blk (lv2 := [(0, vr l), (1, vi cx), (2, vi cy), (3, vi dx), (4, vi dy), (5, vi j), (6, vi i), (7, vi z11), (8, vi z13), (9, vi z15), (10, vi z17)]) (st2 := [vi 1]) kX4_meets_242 rfl ?_
                  refine q_goto (tgt := 247) eX4_meets_243 (by decide) ?_
                  exact q_rz rfl eX4_meets_247 (by decide) ⟨1, rfl, Or.inl ⟨rfl, (gm_mt_nb hab hcd hnc hnd).mpr ⟨am_b_nor hj hi (by omega) (by omega), by omega, by omega⟩⟩, rfl⟩
            · skip
              refine q_blk (lv2 := [(0, vr l), (1, vi cx), (2, vi cy), (3, vi dx), (4, vi dy), (5, vi j), (6, vi i)]) (st2 := [vi 0]) kX4_meets_141 rfl ?_
              exact q_rz rfl eX4_meets_142 (by decide) ⟨0, rfl, Or.inr ⟨rfl, fun q => ((gm_mt_nb hab hcd hnc hnd).mp q).1 (am_b_or hj hi (by omega))⟩, rfl⟩
        refine q_gi eX4_meets_85 fl_RX4_15 (Or.inl rfl) hL (z := ay) rfl ?_
        refine q_blk (lv2 := [(0, vr l), (1, vi cx), (2, vi cy), (3, vi dx), (4, vi dy), (5, vi j)]) (st2 := [vr l, vi ay]) kX4_meets_88 rfl ?_
        refine q_gi eX4_meets_89 fl_RX4_21 (Or.inl rfl) hL (z := by') rfl ?_
        refine AQ.of (AS.mmax eX4_meets_92 (by first | assumption | exact ⟨by omega, by omega⟩) (by first | assumption | exact ⟨by omega, by omega⟩) (am_gw 958 (by decide +kernel) (by decide +kernel)) (am_gw 567 (by decide +kernel) (by decide +kernel)) (am_gw 53 (by decide +kernel) (by decide +kernel)) (am_gw 568 (by decide +kernel) (by decide +kernel)) (by decide) (Nat.le_of_ble_eq_true rfl)) ?_
        obtain ⟨z25, e26⟩ : ∃ q : Int, q = (if ay < by' then by' else ay) := ⟨_, rfl⟩
        rw [← e26]
        refine q_blk (lv2 := [(0, vr l), (1, vi cx), (2, vi cy), (3, vi dx), (4, vi dy), (5, vi j)]) (st2 := [vi dy, vi cy, vi z25]) kX4_meets_95 rfl ?_
        refine AQ.of (AS.mmin eX4_meets_98 (by first | assumption | exact ⟨by omega, by omega⟩) (by first | assumption | exact ⟨by omega, by omega⟩) (am_gw 959 (by decide +kernel) (by decide +kernel)) (am_gw 570 (by decide +kernel) (by decide +kernel)) (am_gw 53 (by decide +kernel) (by decide +kernel)) (am_gw 571 (by decide +kernel) (by decide +kernel)) (by decide) (Nat.le_of_ble_eq_true rfl)) ?_
        obtain ⟨z27, e28⟩ : ∃ q : Int, q = (if dy < cy then dy else cy) := ⟨_, rfl⟩
        rw [← e28]
        refine AQ.ic_lt (tgt := 124) eX4_meets_101 (by decide) (by first | assumption | exact ⟨by omega, by omega⟩) (by first | assumption | exact ⟨by omega, by omega⟩) (fun br29 => ?_) (fun br29 => ?_)
        · skip
          refine q_blk (lv2 := [(0, vr l), (1, vi cx), (2, vi cy), (3, vi dx), (4, vi dy), (5, vi j)]) (st2 := [vi 1]) kX4_meets_124 rfl ?_
          refine q_goto (tgt := 129) eX4_meets_125 (by decide) ?_
          exact jn129 1 (by unfold am_b gm_bp gm_hi gm_lo; omega)
        · skip
          refine q_blk (lv2 := [(0, vr l), (1, vi cx), (2, vi cy), (3, vi dx), (4, vi dy), (5, vi j)]) (st2 := [vi dy, vi cy]) kX4_meets_104 rfl ?_
          refine AQ.of (AS.mmax eX4_meets_107 (by first | assumption | exact ⟨by omega, by omega⟩) (by first | assumption | exact ⟨by omega, by omega⟩) (am_gw 958 (by decide +kernel) (by decide +kernel)) (am_gw 567 (by decide +kernel) (by decide +kernel)) (am_gw 53 (by decide +kernel) (by decide +kernel)) (am_gw 568 (by decide +kernel) (by decide +kernel)) (by decide) (Nat.le_of_ble_eq_true rfl)) ?_
          obtain ⟨z30, e31⟩ : ∃ q : Int, q = (if cy < dy then dy else cy) := ⟨_, rfl⟩
          rw [← e31]
          refine q_blk (lv2 := [(0, vr l), (1, vi cx), (2, vi cy), (3, vi dx), (4, vi dy), (5, vi j)]) (st2 := [vr l, vi z30]) kX4_meets_110 rfl ?_
          refine q_gi eX4_meets_111 fl_RX4_15 (Or.inl rfl) hL (z := ay) rfl ?_
          refine q_blk (lv2 := [(0, vr l), (1, vi cx), (2, vi cy), (3, vi dx), (4, vi dy), (5, vi j)]) (st2 := [vr l, vi ay, vi z30]) kX4_meets_114 rfl ?_
          refine q_gi eX4_meets_115 fl_RX4_21 (Or.inl rfl) hL (z := by') rfl ?_
          refine AQ.of (AS.mmin eX4_meets_118 (by first | assumption | exact ⟨by omega, by omega⟩) (by first | assumption | exact ⟨by omega, by omega⟩) (am_gw 959 (by decide +kernel) (by decide +kernel)) (am_gw 570 (by decide +kernel) (by decide +kernel)) (am_gw 53 (by decide +kernel) (by decide +kernel)) (am_gw 571 (by decide +kernel) (by decide +kernel)) (by decide) (Nat.le_of_ble_eq_true rfl)) ?_
          obtain ⟨z32, e33⟩ : ∃ q : Int, q = (if by' < ay then by' else ay) := ⟨_, rfl⟩
          rw [← e33]
          refine AQ.ic_ge (tgt := 128) eX4_meets_121 (by decide) (by first | assumption | exact ⟨by omega, by omega⟩) (by first | assumption | exact ⟨by omega, by omega⟩) (fun br34 => ?_) (fun br34 => ?_)
          · skip
            refine q_blk (lv2 := [(0, vr l), (1, vi cx), (2, vi cy), (3, vi dx), (4, vi dy), (5, vi j)]) (st2 := [vi 0]) kX4_meets_128 rfl ?_
            exact jn129 0 (by unfold am_b gm_bp gm_hi gm_lo; omega)
          · skip
            refine q_blk (lv2 := [(0, vr l), (1, vi cx), (2, vi cy), (3, vi dx), (4, vi dy), (5, vi j)]) (st2 := [vi 1]) kX4_meets_124 rfl ?_
            refine q_goto (tgt := 129) eX4_meets_125 (by decide) ?_
            exact jn129 1 (by unfold am_b gm_bp gm_hi gm_lo; omega)
      refine q_gi eX4_meets_40 fl_RX4_9 (Or.inl rfl) hL (z := ax) rfl ?_
      refine q_blk (lv2 := [(0, vr l), (1, vi cx), (2, vi cy), (3, vi dx), (4, vi dy)]) (st2 := [vr l, vi ax]) kX4_meets_43 rfl ?_
      refine q_gi eX4_meets_44 fl_RX4_18 (Or.inl rfl) hL (z := bx) rfl ?_
      refine AQ.of (AS.mmax eX4_meets_47 (by first | assumption | exact ⟨by omega, by omega⟩) (by first | assumption | exact ⟨by omega, by omega⟩) (am_gw 958 (by decide +kernel) (by decide +kernel)) (am_gw 567 (by decide +kernel) (by decide +kernel)) (am_gw 53 (by decide +kernel) (by decide +kernel)) (am_gw 568 (by decide +kernel) (by decide +kernel)) (by decide) (Nat.le_of_ble_eq_true rfl)) ?_
      obtain ⟨z35, e36⟩ : ∃ q : Int, q = (if ax < bx then bx else ax) := ⟨_, rfl⟩
      rw [← e36]
      refine q_blk (lv2 := [(0, vr l), (1, vi cx), (2, vi cy), (3, vi dx), (4, vi dy)]) (st2 := [vi dx, vi cx, vi z35]) kX4_meets_50 rfl ?_
      refine AQ.of (AS.mmin eX4_meets_52 (by first | assumption | exact ⟨by omega, by omega⟩) (by first | assumption | exact ⟨by omega, by omega⟩) (am_gw 959 (by decide +kernel) (by decide +kernel)) (am_gw 570 (by decide +kernel) (by decide +kernel)) (am_gw 53 (by decide +kernel) (by decide +kernel)) (am_gw 571 (by decide +kernel) (by decide +kernel)) (by decide) (Nat.le_of_ble_eq_true rfl)) ?_
      obtain ⟨z37, e38⟩ : ∃ q : Int, q = (if dx < cx then dx else cx) := ⟨_, rfl⟩
      rw [← e38]
      refine AQ.ic_lt (tgt := 77) eX4_meets_55 (by decide) (by first | assumption | exact ⟨by omega, by omega⟩) (by first | assumption | exact ⟨by omega, by omega⟩) (fun br39 => ?_) (fun br39 => ?_)
      · skip
        refine q_blk (lv2 := [(0, vr l), (1, vi cx), (2, vi cy), (3, vi dx), (4, vi dy)]) (st2 := [vi 1]) kX4_meets_77 rfl ?_
        refine q_goto (tgt := 82) eX4_meets_78 (by decide) ?_
        exact jn82 1 (by unfold am_b gm_bp gm_hi gm_lo; omega)
      · skip
        refine q_blk (lv2 := [(0, vr l), (1, vi cx), (2, vi cy), (3, vi dx), (4, vi dy)]) (st2 := [vi dx, vi cx]) kX4_meets_58 rfl ?_
        refine AQ.of (AS.mmax eX4_meets_60 (by first | assumption | exact ⟨by omega, by omega⟩) (by first | assumption | exact ⟨by omega, by omega⟩) (am_gw 958 (by decide +kernel) (by decide +kernel)) (am_gw 567 (by decide +kernel) (by decide +kernel)) (am_gw 53 (by decide +kernel) (by decide +kernel)) (am_gw 568 (by decide +kernel) (by decide +kernel)) (by decide) (Nat.le_of_ble_eq_true rfl)) ?_
        obtain ⟨z40, e41⟩ : ∃ q : Int, q = (if cx < dx then dx else cx) := ⟨_, rfl⟩
        rw [← e41]
        refine q_blk (lv2 := [(0, vr l), (1, vi cx), (2, vi cy), (3, vi dx), (4, vi dy)]) (st2 := [vr l, vi z40]) kX4_meets_63 rfl ?_
        refine q_gi eX4_meets_64 fl_RX4_9 (Or.inl rfl) hL (z := ax) rfl ?_
        refine q_blk (lv2 := [(0, vr l), (1, vi cx), (2, vi cy), (3, vi dx), (4, vi dy)]) (st2 := [vr l, vi ax, vi z40]) kX4_meets_67 rfl ?_
        refine q_gi eX4_meets_68 fl_RX4_18 (Or.inl rfl) hL (z := bx) rfl ?_
        refine AQ.of (AS.mmin eX4_meets_71 (by first | assumption | exact ⟨by omega, by omega⟩) (by first | assumption | exact ⟨by omega, by omega⟩) (am_gw 959 (by decide +kernel) (by decide +kernel)) (am_gw 570 (by decide +kernel) (by decide +kernel)) (am_gw 53 (by decide +kernel) (by decide +kernel)) (am_gw 571 (by decide +kernel) (by decide +kernel)) (by decide) (Nat.le_of_ble_eq_true rfl)) ?_
        obtain ⟨z42, e43⟩ : ∃ q : Int, q = (if bx < ax then bx else ax) := ⟨_, rfl⟩
        rw [← e43]
        refine AQ.ic_ge (tgt := 81) eX4_meets_74 (by decide) (by first | assumption | exact ⟨by omega, by omega⟩) (by first | assumption | exact ⟨by omega, by omega⟩) (fun br44 => ?_) (fun br44 => ?_)
        · skip
          refine q_blk (lv2 := [(0, vr l), (1, vi cx), (2, vi cy), (3, vi dx), (4, vi dy)]) (st2 := [vi 0]) kX4_meets_81 rfl ?_
          exact jn82 0 (by unfold am_b gm_bp gm_hi gm_lo; omega)
        · skip
          refine q_blk (lv2 := [(0, vr l), (1, vi cx), (2, vi cy), (3, vi dx), (4, vi dy)]) (st2 := [vi 1]) kX4_meets_77 rfl ?_
          refine q_goto (tgt := 82) eX4_meets_78 (by decide) ?_
          exact jn82 1 (by unfold am_b gm_bp gm_hi gm_lo; omega)
