/-! CornerClaims$Board: its cells; what reads. -/
def am_sh (b : Nat) (i : Int) : Option Nat := if 0 ≤ i ∧ i < 6 then some (b + 6 + 3 * i.toNat) else none
def BC (h : AH) (b : Nat) (D : Int → Int) (sx sy sv cm : Int → Int) (sc : Nat) : Prop := h.1 b = some (0, 10, am_L [0, 0, 0, 0, 0, D 0, D 1, D 2, D 3, 0], am_G [some (b + 1), some (b + 2), some (b + 3), some (b + 4), some (b + 5), none, none, none, none, some sc]) ∧ h.1 (b + 1) = some (100, 20, sx, am_N) ∧ h.1 (b + 2) = some (100, 20, sy, am_N) ∧ h.1 (b + 3) = some (100, 20, sv, am_N) ∧ h.1 (b + 4) = some (100, 20, cm, am_N) ∧ h.1 (b + 5) = some (104, 6, am_L [], am_sh b)
def SD (h : AH) (b : Nat) (D : Int → Int) (p : Int) : Prop := SX h (b + 6 + 3 * p.toNat) (pN D p) (pC D p) (pO D p) (pX D p) (pY D p)
/-- a board at b says D; its stones' claims are cm, its score's code lies at sc -/
def BD (h : AH) (b : Nat) (D cm : Int → Int) (sc : Nat) : Prop := (∃ sx sy sv, BC h b D sx sy sv cm sc ∧ ∀ k, 0 ≤ k → k < D 2 → sx k = sX D k ∧ sy k = sY D k ∧ sv k = sV D k) ∧ (∀ p : Int, 0 ≤ p → p < 6 → ∃ n cl ow fx fy, SP h (b + 6 + 3 * p.toNat) n cl ow fx fy) ∧ ∀ p : Int, 0 ≤ p → p < D 3 → SD h b D p
theorem BD.ob {h : AH} {b : Nat} {D cm : Int → Int} {sc : Nat} (hB : BD h b D cm sc) : am_ob h b 0 := by
  obtain ⟨⟨sx, sy, sv, hC, -⟩, -⟩ := hB
  exact ⟨_, _, _, hC.1⟩
theorem BD.sh {h : AH} {b : Nat} {D cm : Int → Int} {sc : Nat} (hB : BD h b D cm sc) {p : Int} (p0 : 0 ≤ p) (p1 : p < D 3) : SX h (b + 6 + 3 * p.toNat) (pN D p) (pC D p) (pO D p) (pX D p) (pY D p) := hB.2.2 p p0 p1
theorem BD.kept {h h1 : AH} {b : Nat} {D cm : Int → Int} {sc : Nat} {lo hi : Nat} (hB : BD h b D cm sc) (f : am_fr h h1 lo hi) (hd : b + 24 ≤ lo ∨ hi ≤ b) (hn : D 3 ≤ 6) : BD h1 b D cm sc := by
  obtain ⟨⟨sx, sy, sv, ⟨c0, c1, c2, c3, c4, c5⟩, h2⟩, h3, h4⟩ := hB
  refine ⟨⟨sx, sy, sv, ⟨(f.2 _ (by omega)).trans c0, (f.2 _ (by omega)).trans c1, (f.2 _ (by omega)).trans c2, (f.2 _ (by omega)).trans c3, (f.2 _ (by omega)).trans c4, (f.2 _ (by omega)).trans c5⟩, h2⟩, fun p p0 p1 => ?_, fun p p0 p1 => SX.kept (h4 p p0 p1) f (by omega)⟩
  obtain ⟨n, cl, ow, fx, fy, s1, s2, s3⟩ := h3 p p0 p1
  exact ⟨n, cl, ow, fx, fy, (f.2 _ (by omega)).trans s1, (f.2 _ (by omega)).trans s2, (f.2 _ (by omega)).trans s3⟩

set_option maxHeartbeats 1000000 in
theorem c_X0_shapeAt {w : am_w} {h : AH} {b : Nat} {D cm : Int → Int} {sc : Nat} (hB : BD h b D cm sc) (hD : VD D) {p : Int} (p0 : 0 ≤ p) (p1 : p < 6) : AE w m_X0_shapeAt 1 [vr b, vi p] h (am_refp h (fun z => z = b + 6 + 3 * p.toNat)) := by
  refine AE.of wf_X0_shapeAt (Nat.le_of_ble_eq_true rfl) (am_ok_rp) ?_
  obtain ⟨⟨sx, sy, sv, ⟨b0, b1, b2, b3, b4, b5⟩, hst⟩, hall, hsh⟩ := id hB
  have d0 := hD.1
  have d1 := hD.2.1
  have d2 := hD.2.2.1
  have d3 := hD.2.2.2.1
  refine q_blk (lv2 := [(0, vr b), (1, vi p)]) (st2 := [vr b]) kX0_shapeAt_0 rfl ?_
  refine q_gr eX0_shapeAt_1 fl_RX0_26 (Or.inr ⟨_, rfl⟩) b0 rfl ?_
  refine q_blk (lv2 := [(0, vr b), (1, vi p)]) (st2 := [vi p, vr (b + 5)]) kX0_shapeAt_4 rfl ?_
  refine AQ.of (AS.if_lt_f eX0_shapeAt_5 (by first | assumption | exact ⟨by omega, by omega⟩) (by omega) (by decide)) ?_
  refine q_blk (lv2 := [(0, vr b), (1, vi p)]) (st2 := [vi 6, vi p, vr (b + 5)]) kX0_shapeAt_8 rfl ?_
  refine AQ.of (AS.ic_ge_f eX0_shapeAt_11 (by first | assumption | exact ⟨by omega, by omega⟩) ⟨by decide, by decide⟩ (by omega) (by decide)) ?_
  refine q_blk (lv2 := [(0, vr b), (1, vi p)]) (st2 := [vi p, vr (b + 5)]) kX0_shapeAt_14 rfl ?_
  refine q_goto (tgt := 19) eX0_shapeAt_15 (by decide) ?_
  refine q_aa eX0_shapeAt_19 b5 (by decide) (by omega) (by omega) (if_pos ⟨by omega, by omega⟩) ?_
  exact q_ra rfl eX0_shapeAt_20 ⟨(b + 6 + 3 * (Int.toNat p)), rfl, rfl, rfl⟩

set_option maxHeartbeats 1000000 in
theorem c_X0_stoneX {w : am_w} {h : AH} {b : Nat} {D cm : Int → Int} {sc : Nat} (hB : BD h b D cm sc) (hD : VD D) {k : Int} (k0 : 0 ≤ k) (k1 : k < D 2) : AE w m_X0_stoneX 1 [vr b, vi k] h (am_intp h (fun z => z = sX D k)) := by
  refine AE.of wf_X0_stoneX (Nat.le_of_ble_eq_true rfl) (am_ok_ip) ?_
  obtain ⟨⟨sx, sy, sv, ⟨b0, b1, b2, b3, b4, b5⟩, hst⟩, hall, hsh⟩ := id hB
  have d0 := hD.1
  have d1 := hD.2.1
  have d2 := hD.2.2.1
  have d3 := hD.2.2.2.1
  refine q_blk (lv2 := [(0, vr b), (1, vi k)]) (st2 := [vi k]) kX0_stoneX_0 rfl ?_
  refine AQ.of (AS.if_lt_f eX0_stoneX_1 (by first | assumption | exact ⟨by omega, by omega⟩) (by omega) (by decide)) ?_
  refine q_blk (lv2 := [(0, vr b), (1, vi k)]) (st2 := [vi 20, vi k]) kX0_stoneX_4 rfl ?_
  refine AQ.of (AS.ic_ge_f eX0_stoneX_7 (by first | assumption | exact ⟨by omega, by omega⟩) ⟨by decide, by decide⟩ (by omega) (by decide)) ?_
  refine q_blk (lv2 := [(0, vr b), (1, vi k)]) (st2 := [vr b]) kX0_stoneX_10 rfl ?_
  refine q_gr eX0_stoneX_11 fl_RX0_9 (Or.inr ⟨_, rfl⟩) b0 rfl ?_
  refine q_blk (lv2 := [(0, vr b), (1, vi k)]) (st2 := [vi k, vr (b + 1)]) kX0_stoneX_14 rfl ?_
  refine q_ia eX0_stoneX_15 b1 (by decide) (by omega) (by omega) (z := (sx k)) rfl ?_
  refine q_goto (tgt := 20) eX0_stoneX_16 (by decide) ?_
  exact q_ri rfl eX0_stoneX_20 ⟨(sx k), rfl, (hst k k0 k1).1, rfl⟩

set_option maxHeartbeats 1000000 in
theorem c_X0_stoneY {w : am_w} {h : AH} {b : Nat} {D cm : Int → Int} {sc : Nat} (hB : BD h b D cm sc) (hD : VD D) {k : Int} (k0 : 0 ≤ k) (k1 : k < D 2) : AE w m_X0_stoneY 1 [vr b, vi k] h (am_intp h (fun z => z = sY D k)) := by
  refine AE.of wf_X0_stoneY (Nat.le_of_ble_eq_true rfl) (am_ok_ip) ?_
  obtain ⟨⟨sx, sy, sv, ⟨b0, b1, b2, b3, b4, b5⟩, hst⟩, hall, hsh⟩ := id hB
  have d0 := hD.1
  have d1 := hD.2.1
  have d2 := hD.2.2.1
  have d3 := hD.2.2.2.1
  refine q_blk (lv2 := [(0, vr b), (1, vi k)]) (st2 := [vi k]) kX0_stoneY_0 rfl ?_
  refine AQ.of (AS.if_lt_f eX0_stoneY_1 (by first | assumption | exact ⟨by omega, by omega⟩) (by omega) (by decide)) ?_
  refine q_blk (lv2 := [(0, vr b), (1, vi k)]) (st2 := [vi 20, vi k]) kX0_stoneY_4 rfl ?_
  refine AQ.of (AS.ic_ge_f eX0_stoneY_7 (by first | assumption | exact ⟨by omega, by omega⟩) ⟨by decide, by decide⟩ (by omega) (by decide)) ?_
  refine q_blk (lv2 := [(0, vr b), (1, vi k)]) (st2 := [vr b]) kX0_stoneY_10 rfl ?_
  refine q_gr eX0_stoneY_11 fl_RX0_15 (Or.inr ⟨_, rfl⟩) b0 rfl ?_
  refine q_blk (lv2 := [(0, vr b), (1, vi k)]) (st2 := [vi k, vr (b + 2)]) kX0_stoneY_14 rfl ?_
  refine q_ia eX0_stoneY_15 b2 (by decide) (by omega) (by omega) (z := (sy k)) rfl ?_
  refine q_goto (tgt := 20) eX0_stoneY_16 (by decide) ?_
  exact q_ri rfl eX0_stoneY_20 ⟨(sy k), rfl, (hst k k0 k1).2.1, rfl⟩

set_option maxHeartbeats 1000000 in
theorem c_X0_stoneValue {w : am_w} {h : AH} {b : Nat} {D cm : Int → Int} {sc : Nat} (hB : BD h b D cm sc) (hD : VD D) {k : Int} (k0 : 0 ≤ k) (k1 : k < D 2) : AE w m_X0_stoneValue 1 [vr b, vi k] h (am_intp h (fun z => z = sV D k)) := by
  refine AE.of wf_X0_stoneValue (Nat.le_of_ble_eq_true rfl) (am_ok_ip) ?_
  obtain ⟨⟨sx, sy, sv, ⟨b0, b1, b2, b3, b4, b5⟩, hst⟩, hall, hsh⟩ := id hB
  have d0 := hD.1
  have d1 := hD.2.1
  have d2 := hD.2.2.1
  have d3 := hD.2.2.2.1
  refine q_blk (lv2 := [(0, vr b), (1, vi k)]) (st2 := [vi k]) kX0_stoneValue_0 rfl ?_
  refine AQ.of (AS.if_lt_f eX0_stoneValue_1 (by first | assumption | exact ⟨by omega, by omega⟩) (by omega) (by decide)) ?_
  refine q_blk (lv2 := [(0, vr b), (1, vi k)]) (st2 := [vi 20, vi k]) kX0_stoneValue_4 rfl ?_
  refine AQ.of (AS.ic_ge_f eX0_stoneValue_7 (by first | assumption | exact ⟨by omega, by omega⟩) ⟨by decide, by decide⟩ (by omega) (by decide)) ?_
  refine q_blk (lv2 := [(0, vr b), (1, vi k)]) (st2 := [vr b]) kX0_stoneValue_10 rfl ?_
  refine q_gr eX0_stoneValue_11 fl_RX0_18 (Or.inr ⟨_, rfl⟩) b0 rfl ?_
  refine q_blk (lv2 := [(0, vr b), (1, vi k)]) (st2 := [vi k, vr (b + 3)]) kX0_stoneValue_14 rfl ?_
  refine q_ia eX0_stoneValue_15 b3 (by decide) (by omega) (by omega) (z := (sv k)) rfl ?_
  refine q_goto (tgt := 20) eX0_stoneValue_16 (by decide) ?_
  exact q_ri rfl eX0_stoneValue_20 ⟨(sv k), rfl, (hst k k0 k1).2.2, rfl⟩

set_option maxHeartbeats 1000000 in
theorem c_X0_claimOf {w : am_w} {h : AH} {b : Nat} {D cm : Int → Int} {sc : Nat} (hB : BD h b D cm sc) (hD : VD D) {k : Int} (k0 : 0 ≤ k) (k1 : k < D 2) : AE w m_X0_claimOf 1 [vr b, vi k] h (am_intp h (fun z => z = cm k)) := by
  refine AE.of wf_X0_claimOf (Nat.le_of_ble_eq_true rfl) (am_ok_ip) ?_
  obtain ⟨⟨sx, sy, sv, ⟨b0, b1, b2, b3, b4, b5⟩, hst⟩, hall, hsh⟩ := id hB
  have d0 := hD.1
  have d1 := hD.2.1
  have d2 := hD.2.2.1
  have d3 := hD.2.2.2.1
  refine q_blk (lv2 := [(0, vr b), (1, vi k)]) (st2 := [vi k]) kX0_claimOf_0 rfl ?_
  refine AQ.of (AS.if_lt_f eX0_claimOf_1 (by first | assumption | exact ⟨by omega, by omega⟩) (by omega) (by decide)) ?_
  refine q_blk (lv2 := [(0, vr b), (1, vi k)]) (st2 := [vi 20, vi k]) kX0_claimOf_4 rfl ?_
  refine AQ.of (AS.ic_ge_f eX0_claimOf_7 (by first | assumption | exact ⟨by omega, by omega⟩) ⟨by decide, by decide⟩ (by omega) (by decide)) ?_
  refine q_blk (lv2 := [(0, vr b), (1, vi k)]) (st2 := [vr b]) kX0_claimOf_10 rfl ?_
  refine q_gr eX0_claimOf_11 fl_RX0_21 (Or.inr ⟨_, rfl⟩) b0 rfl ?_
  refine q_blk (lv2 := [(0, vr b), (1, vi k)]) (st2 := [vi k, vr (b + 4)]) kX0_claimOf_14 rfl ?_
  refine q_ia eX0_claimOf_15 b4 (by decide) (by omega) (by omega) (z := (cm k)) rfl ?_
  refine q_goto (tgt := 20) eX0_claimOf_16 (by decide) ?_
  exact q_ri rfl eX0_claimOf_20 ⟨(cm k), rfl, rfl, rfl⟩

set_option maxHeartbeats 1000000 in
theorem c_X0_claimedStones {w : am_w} {h : AH} {b : Nat} {D cm : Int → Int} {sc : Nat} (hB : BD h b D cm sc) (hD : VD D) (hcr : ∀ k, 0 ≤ k → k < D 2 → -1 ≤ cm k ∧ cm k < 6)  : AE w m_X0_claimedStones 2 [vr b] h (am_intp h (fun z => z = gm_sm (gm_nf cm) (D 2).toNat)) := by
  refine AE.of wf_X0_claimedStones (Nat.le_of_ble_eq_true rfl) (am_ok_ip) ?_
  obtain ⟨⟨sx, sy, sv, ⟨b0, b1, b2, b3, b4, b5⟩, hst⟩, hall, hsh⟩ := id hB
  have d0 := hD.1
  have d1 := hD.2.1
  have d2 := hD.2.2.1
  have d3 := hD.2.2.2.1
  refine q_blk (lv2 := [(0, vr b), (1, vi 0), (2, vi 0)]) (st2 := []) kX0_claimedStones_0 rfl ?_
  refine am_lp2 (I := fun (s : Int) (i : Int) => (0 ≤ i ∧ i ≤ D 2) ∧ s = gm_sm (gm_nf cm) i.toNat) (μ := fun (s : Int) (i : Int) => (D 2 - i).toNat) (G := fun (s : Int) (i : Int) => AQ w m_X0_claimedStones 2 4 [(0, vr b), (1, vi s), (2, vi i)] [] h (am_intp h (fun z => z = gm_sm (gm_nf cm) (D 2).toNat))) ?_ 0 0 (⟨⟨by omega, by omega⟩, rfl⟩)
  intro s i hI2 ih1
  obtain ⟨⟨i0, i1⟩, hs⟩ := hI2
  refine q_blk (lv2 := [(0, vr b), (1, vi s), (2, vi i)]) (st2 := [vr b, vi i]) kX0_claimedStones_4 rfl ?_
  refine q_gi eX0_claimedStones_6 fl_RX0_38 (Or.inl rfl) b0 (z := (D 2)) rfl ?_
  refine AQ.ic_ge (tgt := 30) eX0_claimedStones_9 (by decide) (by first | assumption | exact ⟨by omega, by omega⟩) (by first | assumption | exact ⟨by omega, by omega⟩) (fun br3 => ?_) (fun br3 => ?_)
  · skip
    refine q_blk (lv2 := [(0, vr b), (1, vi s), (2, vi i)]) (st2 := [vi s]) kX0_claimedStones_30 rfl ?_
    exact q_ri rfl eX0_claimedStones_31 ⟨s, rfl, (by obtain rfl : i = D 2 := (by omega); exact hs), rfl⟩
  · skip
    have hcm := hcr i i0 (by omega)
    refine q_blk (lv2 := [(0, vr b), (1, vi s), (2, vi i)]) (st2 := [vi i, vr b]) kX0_claimedStones_12 rfl ?_
    refine q_Vi (av := [vi i]) (st := []) (c_X0_claimOf hB hD (by omega) (by omega)) lk_RX0_83 (by decide) rfl rfl hB.ob ⟨_, rfl, rfl⟩ (Nat.le_of_ble_eq_true rfl) eX0_claimedStones_14 (fun z4 e5 => ?_)
    subst e5
    refine q_blk (lv2 := [(0, vr b), (1, vi s), (2, vi i)]) (st2 := [vi (-1), vi (cm i)]) kX0_claimedStones_17 rfl ?_
    refine AQ.ic_eq (tgt := 24) eX0_claimedStones_18 (by decide) (by first | assumption | exact ⟨by omega, by omega⟩) ⟨by decide, by decide⟩ (fun br6 => ?_) (fun br6 => ?_)
    · skip
      refine q_blk (lv2 := [(0, vr b), (1, vi s), (2, vi (i + 1))]) (st2 := []) kX0_claimedStones_24 rfl ?_
      refine q_goto (tgt := 4) eX0_claimedStones_27 (by decide) ?_
      exact ih1 s (i + 1) (⟨⟨by omega, by omega⟩, by rw [gm_sm_s _ i0, ← hs]; unfold gm_nf; (try dsimp only); split <;> omega⟩) (by omega)
    · skip
      refine q_blk (lv2 := [(0, vr b), (1, vi (s + 1)), (2, vi i)]) (st2 := []) kX0_claimedStones_21 rfl ?_
      refine q_blk (lv2 := [(0, vr b), (1, vi (s + 1)), (2, vi (i + 1))]) (st2 := []) kX0_claimedStones_24 rfl ?_
      refine q_goto (tgt := 4) eX0_claimedStones_27 (by decide) ?_
      exact ih1 (s + 1) (i + 1) (⟨⟨by omega, by omega⟩, by rw [gm_sm_s _ i0, ← hs]; unfold gm_nf; (try dsimp only); split <;> omega⟩) (by omega)

set_option maxHeartbeats 1000000 in
theorem c_X0_stonesOf {w : am_w} {h : AH} {b : Nat} {D cm : Int → Int} {sc : Nat} (hB : BD h b D cm sc) (hD : VD D) (hcr : ∀ k, 0 ≤ k → k < D 2 → -1 ≤ cm k ∧ cm k < 6) {p : Int} (p0 : 0 ≤ p) (p1 : p < 6) : AE w m_X0_stonesOf 2 [vr b, vi p] h (am_intp h (fun z => z = gm_sm (gm_if cm p (fun _ => 1)) (D 2).toNat)) := by
  refine AE.of wf_X0_stonesOf (Nat.le_of_ble_eq_true rfl) (am_ok_ip) ?_
  obtain ⟨⟨sx, sy, sv, ⟨b0, b1, b2, b3, b4, b5⟩, hst⟩, hall, hsh⟩ := id hB
  have d0 := hD.1
  have d1 := hD.2.1
  have d2 := hD.2.2.1
  have d3 := hD.2.2.2.1
  refine q_blk (lv2 := [(0, vr b), (1, vi p), (2, vi 0), (3, vi 0)]) (st2 := []) kX0_stonesOf_0 rfl ?_
  refine am_lp2 (I := fun (s : Int) (i : Int) => (0 ≤ i ∧ i ≤ D 2) ∧ s = gm_sm (gm_if cm p (fun _ => 1)) i.toNat) (μ := fun (s : Int) (i : Int) => (D 2 - i).toNat) (G := fun (s : Int) (i : Int) => AQ w m_X0_stonesOf 2 4 [(0, vr b), (1, vi p), (2, vi s), (3, vi i)] [] h (am_intp h (fun z => z = gm_sm (gm_if cm p (fun _ => 1)) (D 2).toNat))) ?_ 0 0 (⟨⟨by omega, by omega⟩, rfl⟩)
  intro s i hI2 ih1
  obtain ⟨⟨i0, i1⟩, hs⟩ := hI2
  refine q_blk (lv2 := [(0, vr b), (1, vi p), (2, vi s), (3, vi i)]) (st2 := [vr b, vi i]) kX0_stonesOf_4 rfl ?_
  refine q_gi eX0_stonesOf_6 fl_RX0_38 (Or.inl rfl) b0 (z := (D 2)) rfl ?_
  refine AQ.ic_ge (tgt := 30) eX0_stonesOf_9 (by decide) (by first | assumption | exact ⟨by omega, by omega⟩) (by first | assumption | exact ⟨by omega, by omega⟩) (fun br3 => ?_) (fun br3 => ?_)
  · skip
    refine q_blk (lv2 := [(0, vr b), (1, vi p), (2, vi s), (3, vi i)]) (st2 := [vi s]) kX0_stonesOf_30 rfl ?_
    exact q_ri rfl eX0_stonesOf_31 ⟨s, rfl, (by obtain rfl : i = D 2 := (by omega); exact hs), rfl⟩
  · skip
    have hcm := hcr i i0 (by omega)
    refine q_blk (lv2 := [(0, vr b), (1, vi p), (2, vi s), (3, vi i)]) (st2 := [vi i, vr b]) kX0_stonesOf_12 rfl ?_
    refine q_Vi (av := [vi i]) (st := []) (c_X0_claimOf hB hD (by omega) (by omega)) lk_RX0_83 (by decide) rfl rfl hB.ob ⟨_, rfl, rfl⟩ (Nat.le_of_ble_eq_true rfl) eX0_stonesOf_14 (fun z4 e5 => ?_)
    subst e5
    refine q_blk (lv2 := [(0, vr b), (1, vi p), (2, vi s), (3, vi i)]) (st2 := [vi p, vi (cm i)]) kX0_stonesOf_17 rfl ?_
    refine AQ.ic_ne (tgt := 24) eX0_stonesOf_18 (by decide) (by first | assumption | exact ⟨by omega, by omega⟩) (by first | assumption | exact ⟨by omega, by omega⟩) (fun br6 => ?_) (fun br6 => ?_)
    · skip
      refine q_blk (lv2 := [(0, vr b), (1, vi p), (2, vi s), (3, vi (i + 1))]) (st2 := []) kX0_stonesOf_24 rfl ?_
      refine q_goto (tgt := 4) eX0_stonesOf_27 (by decide) ?_
      exact ih1 s (i + 1) (⟨⟨by omega, by omega⟩, by rw [gm_sm_s _ i0, ← hs]; unfold gm_if; (try dsimp only); split <;> omega⟩) (by omega)
    · skip
      refine q_blk (lv2 := [(0, vr b), (1, vi p), (2, vi (s + 1)), (3, vi i)]) (st2 := []) kX0_stonesOf_21 rfl ?_
      refine q_blk (lv2 := [(0, vr b), (1, vi p), (2, vi (s + 1)), (3, vi (i + 1))]) (st2 := []) kX0_stonesOf_24 rfl ?_
      refine q_goto (tgt := 4) eX0_stonesOf_27 (by decide) ?_
      exact ih1 (s + 1) (i + 1) (⟨⟨by omega, by omega⟩, by rw [gm_sm_s _ i0, ← hs]; unfold gm_if; (try dsimp only); split <;> omega⟩) (by omega)

set_option maxHeartbeats 1000000 in
theorem c_X0_valueOfStonesOf {w : am_w} {h : AH} {b : Nat} {D cm : Int → Int} {sc : Nat} (hB : BD h b D cm sc) (hD : VD D) (hcr : ∀ k, 0 ≤ k → k < D 2 → -1 ≤ cm k ∧ cm k < 6) {p : Int} (p0 : 0 ≤ p) (p1 : p < 6) : AE w m_X0_valueOfStonesOf 2 [vr b, vi p] h (am_intp h (fun z => z = gm_sm (gm_if cm p (sV D)) (D 2).toNat)) := by
  refine AE.of wf_X0_valueOfStonesOf (Nat.le_of_ble_eq_true rfl) (am_ok_ip) ?_
  obtain ⟨⟨sx, sy, sv, ⟨b0, b1, b2, b3, b4, b5⟩, hst⟩, hall, hsh⟩ := id hB
  have d0 := hD.1
  have d1 := hD.2.1
  have d2 := hD.2.2.1
  have d3 := hD.2.2.2.1
  refine q_blk (lv2 := [(0, vr b), (1, vi p), (2, vi 0), (3, vi 0)]) (st2 := []) kX0_valueOfStonesOf_0 rfl ?_
  refine am_lp2 (I := fun (s : Int) (i : Int) => (0 ≤ i ∧ i ≤ D 2) ∧ s = gm_sm (gm_if cm p (sV D)) i.toNat) (μ := fun (s : Int) (i : Int) => (D 2 - i).toNat) (G := fun (s : Int) (i : Int) => AQ w m_X0_valueOfStonesOf 2 4 [(0, vr b), (1, vi p), (2, vi s), (3, vi i)] [] h (am_intp h (fun z => z = gm_sm (gm_if cm p (sV D)) (D 2).toNat))) ?_ 0 0 (⟨⟨by omega, by omega⟩, rfl⟩)
  intro s i hI2 ih1
  obtain ⟨⟨i0, i1⟩, hs⟩ := hI2
  refine q_blk (lv2 := [(0, vr b), (1, vi p), (2, vi s), (3, vi i)]) (st2 := [vr b, vi i]) kX0_valueOfStonesOf_4 rfl ?_
  refine q_gi eX0_valueOfStonesOf_6 fl_RX0_38 (Or.inl rfl) b0 (z := (D 2)) rfl ?_
  refine AQ.ic_ge (tgt := 35) eX0_valueOfStonesOf_9 (by decide) (by first | assumption | exact ⟨by omega, by omega⟩) (by first | assumption | exact ⟨by omega, by omega⟩) (fun br3 => ?_) (fun br3 => ?_)
  · skip
    refine q_blk (lv2 := [(0, vr b), (1, vi p), (2, vi s), (3, vi i)]) (st2 := [vi s]) kX0_valueOfStonesOf_35 rfl ?_
    exact q_ri rfl eX0_valueOfStonesOf_36 ⟨s, rfl, (by obtain rfl : i = D 2 := (by omega); exact hs), rfl⟩
  · skip
    have hcm := hcr i i0 (by omega)
    refine q_blk (lv2 := [(0, vr b), (1, vi p), (2, vi s), (3, vi i)]) (st2 := [vi i, vr b]) kX0_valueOfStonesOf_12 rfl ?_
    refine q_Vi (av := [vi i]) (st := []) (c_X0_claimOf hB hD (by omega) (by omega)) lk_RX0_83 (by decide) rfl rfl hB.ob ⟨_, rfl, rfl⟩ (Nat.le_of_ble_eq_true rfl) eX0_valueOfStonesOf_14 (fun z4 e5 => ?_)
    subst e5
    refine q_blk (lv2 := [(0, vr b), (1, vi p), (2, vi s), (3, vi i)]) (st2 := [vi p, vi (cm i)]) kX0_valueOfStonesOf_17 rfl ?_
    refine AQ.ic_ne (tgt := 29) eX0_valueOfStonesOf_18 (by decide) (by first | assumption | exact ⟨by omega, by omega⟩) (by first | assumption | exact ⟨by omega, by omega⟩) (fun br6 => ?_) (fun br6 => ?_)
    · skip
      refine q_blk (lv2 := [(0, vr b), (1, vi p), (2, vi s), (3, vi (i + 1))]) (st2 := []) kX0_valueOfStonesOf_29 rfl ?_
      refine q_goto (tgt := 4) eX0_valueOfStonesOf_32 (by decide) ?_
      exact ih1 s (i + 1) (⟨⟨by omega, by omega⟩, by rw [gm_sm_s _ i0, ← hs]; unfold gm_if; (try dsimp only); split <;> omega⟩) (by omega)
    · skip
      refine q_blk (lv2 := [(0, vr b), (1, vi p), (2, vi s), (3, vi i)]) (st2 := [vi i, vr b, vi s]) kX0_valueOfStonesOf_21 rfl ?_
      refine q_Vi (av := [vi i]) (st := [vi s]) (c_X0_stoneValue hB hD (by omega) (by omega)) lk_RX0_87 (by decide) rfl rfl hB.ob ⟨_, rfl, rfl⟩ (Nat.le_of_ble_eq_true rfl) eX0_valueOfStonesOf_24 (fun z7 e8 => ?_)
      subst e8
      refine q_blk (lv2 := [(0, vr b), (1, vi p), (2, vi (s + (sV D i))), (3, vi i)]) (st2 := []) kX0_valueOfStonesOf_27 rfl ?_
      refine q_blk (lv2 := [(0, vr b), (1, vi p), (2, vi (s + (sV D i))), (3, vi (i + 1))]) (st2 := []) kX0_valueOfStonesOf_29 rfl ?_
      refine q_goto (tgt := 4) eX0_valueOfStonesOf_32 (by decide) ?_
      exact ih1 (s + (sV D i)) (i + 1) (⟨⟨by omega, by omega⟩, by rw [gm_sm_s _ i0, ← hs]; unfold gm_if; (try dsimp only); split <;> omega⟩) (by omega)

set_option maxHeartbeats 1000000 in
theorem c_X0_closedShapes {w : am_w} {h : AH} {b : Nat} {D cm : Int → Int} {sc : Nat} (hB : BD h b D cm sc) (hD : VD D)  : AE w m_X0_closedShapes 2 [vr b] h (am_intp h (fun z => z = gm_sm (gm_cc D) (D 3).toNat)) := by
  refine AE.of wf_X0_closedShapes (Nat.le_of_ble_eq_true rfl) (am_ok_ip) ?_
  obtain ⟨⟨sx, sy, sv, ⟨b0, b1, b2, b3, b4, b5⟩, hst⟩, hall, hsh⟩ := id hB
  have d0 := hD.1
  have d1 := hD.2.1
  have d2 := hD.2.2.1
  have d3 := hD.2.2.2.1
  refine q_blk (lv2 := [(0, vr b), (1, vi 0), (2, vi 0)]) (st2 := []) kX0_closedShapes_0 rfl ?_
  refine am_lp2 (I := fun (s : Int) (i : Int) => (0 ≤ i ∧ i ≤ D 3) ∧ s = gm_sm (gm_cc D) i.toNat) (μ := fun (s : Int) (i : Int) => (D 3 - i).toNat) (G := fun (s : Int) (i : Int) => AQ w m_X0_closedShapes 2 4 [(0, vr b), (1, vi s), (2, vi i)] [] h (am_intp h (fun z => z = gm_sm (gm_cc D) (D 3).toNat))) ?_ 0 0 (⟨⟨by omega, by omega⟩, rfl⟩)
  intro s i hI2 ih1
  obtain ⟨⟨i0, i1⟩, hs⟩ := hI2
  refine q_blk (lv2 := [(0, vr b), (1, vi s), (2, vi i)]) (st2 := [vr b, vi i]) kX0_closedShapes_4 rfl ?_
  refine q_gi eX0_closedShapes_6 fl_RX0_41 (Or.inl rfl) b0 (z := (D 3)) rfl ?_
  refine AQ.ic_ge (tgt := 32) eX0_closedShapes_9 (by decide) (by first | exact ⟨by omega, by omega⟩) (by first | exact ⟨by omega, by omega⟩) (fun br3 => ?_) (fun br3 => ?_)
  · skip
    refine q_blk (lv2 := [(0, vr b), (1, vi s), (2, vi i)]) (st2 := [vi s]) kX0_closedShapes_32 rfl ?_
    exact q_ri rfl eX0_closedShapes_33 ⟨s, rfl, (by obtain rfl : i = D 3 := (by omega); exact hs), rfl⟩
  · skip
    refine q_blk (lv2 := [(0, vr b), (1, vi s), (2, vi i)]) (st2 := [vi i, vr b]) kX0_closedShapes_12 rfl ?_
    refine q_Vr (av := [vi i]) (st := []) (c_X0_shapeAt hB hD (by omega) (by omega)) lk_RX0_56 (by decide) rfl rfl hB.ob ⟨_, rfl, rfl⟩ (Nat.le_of_ble_eq_true rfl) eX0_closedShapes_14 (fun z4 e5 => ?_)
    subst e5
    have hS6 := hB.sh (p := i) (by omega) (by omega)
    obtain ⟨fx6, fy6, hP6, hn6, hc6, hx6⟩ := id hS6
    have hV6 := hD.vc (p := i) (by omega) (by omega)
    refine q_gi eX0_closedShapes_17 fl_RX0_72 (Or.inr rfl) hP6.1 (z := (pC D i)) rfl ?_
    refine AQ.if_eq (tgt := 26) eX0_closedShapes_20 (by decide) (by first | exact ⟨by omega, by omega⟩) (fun br7 => ?_) (fun br7 => ?_)
    · skip
      refine q_blk (lv2 := [(0, vr b), (1, vi s), (2, vi (i + 1))]) (st2 := []) kX0_closedShapes_26 rfl ?_
      refine q_goto (tgt := 4) eX0_closedShapes_29 (by decide) ?_
      exact ih1 s (i + 1) (⟨⟨by omega, by omega⟩, by rw [gm_sm_s _ i0, ← hs]; unfold gm_cc; (try dsimp only); split <;> omega⟩) (by omega)
    · skip
      refine q_blk (lv2 := [(0, vr b), (1, vi (s + 1)), (2, vi i)]) (st2 := []) kX0_closedShapes_23 rfl ?_
      refine q_blk (lv2 := [(0, vr b), (1, vi (s + 1)), (2, vi (i + 1))]) (st2 := []) kX0_closedShapes_26 rfl ?_
      refine q_goto (tgt := 4) eX0_closedShapes_29 (by decide) ?_
      exact ih1 (s + 1) (i + 1) (⟨⟨by omega, by omega⟩, by rw [gm_sm_s _ i0, ← hs]; unfold gm_cc; (try dsimp only); split <;> omega⟩) (by omega)

set_option maxHeartbeats 1000000 in
theorem c_X0_isStoneOrCorner {w : am_w} {h : AH} {b : Nat} {D cm : Int → Int} {sc : Nat} (hB : BD h b D cm sc) (hD : VD D) {x y : Int} (h_x : am_c x) (h_y : am_c y) : AE w m_X0_isStoneOrCorner 3 [vr b, vi x, vi y] h (am_intp h (fun z => am_b z (gm_tk D x y))) := by
  refine AE.of wf_X0_isStoneOrCorner (Nat.le_of_ble_eq_true rfl) (am_ok_zp (fun z q => am_bz q)) ?_
  obtain ⟨⟨sx, sy, sv, ⟨b0, b1, b2, b3, b4, b5⟩, hst⟩, hall, hsh⟩ := id hB
  have d0 := hD.1
  have d1 := hD.2.1
  have d2 := hD.2.2.1
  have d3 := hD.2.2.2.1
  have rx := h_x
  have ry := h_y
  unfold am_c at rx ry
  have h_x9 : am_r x := ⟨by omega, by omega⟩
  have h_y9 : am_r y := ⟨by omega, by omega⟩
  refine q_blk (lv2 := [(0, vr b), (1, vi x), (2, vi y), (3, vi 0)]) (st2 := []) kX0_isStoneOrCorner_0 rfl ?_
  refine am_lp1 (I := fun (i : Int) => (0 ≤ i ∧ i ≤ D 2) ∧ ∀ k, 0 ≤ k → k < i → ¬ (sX D k = x ∧ sY D k = y)) (μ := fun (i : Int) => (D 2 - i).toNat) (G := fun (i : Int) => AQ w m_X0_isStoneOrCorner 3 2 [(0, vr b), (1, vi x), (2, vi y), (3, vi i)] [] h (am_intp h (fun z => am_b z (gm_tk D x y)))) ?_ 0 (⟨⟨by omega, by omega⟩, fun k h0 h1 => by omega⟩)
  intro i hI2 ih1
  obtain ⟨⟨i0, i1⟩, hno⟩ := hI2
  refine q_blk (lv2 := [(0, vr b), (1, vi x), (2, vi y), (3, vi i)]) (st2 := [vr b, vi i]) kX0_isStoneOrCorner_2 rfl ?_
  refine q_gi eX0_isStoneOrCorner_4 fl_RX0_38 (Or.inl rfl) b0 (z := (D 2)) rfl ?_
  refine AQ.ic_ge (tgt := 36) eX0_isStoneOrCorner_7 (by decide) (by first | assumption | exact ⟨by omega, by omega⟩) (by first | assumption | exact ⟨by omega, by omega⟩) (fun br3 => ?_) (fun br3 => ?_)
  · skip
    refine q_blk (lv2 := [(0, vr b), (1, vi x), (2, vi y), (3, vi 0)]) (st2 := []) kX0_isStoneOrCorner_36 rfl ?_
    refine am_lp1 (I := fun (p : Int) => (0 ≤ p ∧ p ≤ D 3) ∧ ∀ k, 0 ≤ k → k < p → ¬ gm_hc (pN D k) (pX D k) (pY D k) x y) (μ := fun (p : Int) => (D 3 - p).toNat) (G := fun (p : Int) => AQ w m_X0_isStoneOrCorner 3 38 [(0, vr b), (1, vi x), (2, vi y), (3, vi p)] [] h (am_intp h (fun z => am_b z (gm_tk D x y)))) ?_ 0 (⟨⟨by omega, by omega⟩, fun k h0 h1 => by omega⟩)
    intro p hI5 ih4
    obtain ⟨⟨p0, p1⟩, hnp⟩ := hI5
    refine q_blk (lv2 := [(0, vr b), (1, vi x), (2, vi y), (3, vi p)]) (st2 := [vr b, vi p]) kX0_isStoneOrCorner_38 rfl ?_
    refine q_gi eX0_isStoneOrCorner_40 fl_RX0_41 (Or.inl rfl) b0 (z := (D 3)) rfl ?_
    refine AQ.ic_ge (tgt := 67) eX0_isStoneOrCorner_43 (by decide) (by first | assumption | exact ⟨by omega, by omega⟩) (by first | assumption | exact ⟨by omega, by omega⟩) (fun br6 => ?_) (fun br6 => ?_)
    · skip
      refine q_blk (lv2 := [(0, vr b), (1, vi x), (2, vi y), (3, vi p)]) (st2 := [vi 0]) kX0_isStoneOrCorner_67 rfl ?_
      exact q_rz rfl eX0_isStoneOrCorner_68 (by decide) ⟨0, rfl, Or.inr ⟨rfl, fun q => by
        rcases q with ⟨k, k0, k1, k2⟩ | ⟨k, k0, k1, k2⟩
        · exact hno k k0 (by omega) k2
        · exact hnp k k0 (by omega) k2⟩, rfl⟩
    · skip
      refine q_blk (lv2 := [(0, vr b), (1, vi x), (2, vi y), (3, vi p)]) (st2 := [vi p, vr b]) kX0_isStoneOrCorner_46 rfl ?_
      refine q_Vr (av := [vi p]) (st := []) (c_X0_shapeAt hB hD (by omega) (by omega)) lk_RX0_56 (by decide) rfl rfl hB.ob ⟨_, rfl, rfl⟩ (Nat.le_of_ble_eq_true rfl) eX0_isStoneOrCorner_48 (fun z7 e8 => ?_)
      subst e8
      have hS9 := hB.sh (p := p) (by omega) (by omega)
      obtain ⟨fx9, fy9, hP9, hn9, hc9, hx9⟩ := id hS9
      have hV9 := hD.vc (p := p) (by omega) (by omega)
      refine q_blk (lv2 := [(0, vr b), (1, vi x), (2, vi y), (3, vi p)]) (st2 := [vi y, vi x, vr (b + 6 + 3 * (Int.toNat p))]) kX0_isStoneOrCorner_51 rfl ?_
      refine q_Vi (av := [vi x, vi y]) (st := []) (c_X7_hasCorner hS9 hV9 h_x9 h_y9) lk_RX0_96 (by decide) rfl rfl hS9.ob ⟨_, rfl, rfl⟩ (Nat.le_of_ble_eq_true rfl) eX0_isStoneOrCorner_53 (fun z10 e11 => ?_)
      rcases e11 with ⟨rfl, e11⟩ | ⟨rfl, e11⟩
      · skip
        refine AQ.of (AS.if_eq_f eX0_isStoneOrCorner_56 ⟨by decide, by decide⟩ (by decide) (by decide)) ?_
        refine q_blk (lv2 := [(0, vr b), (1, vi x), (2, vi y), (3, vi p)]) (st2 := [vi 1]) kX0_isStoneOrCorner_59 rfl ?_
        exact q_rz rfl eX0_isStoneOrCorner_60 (by decide) ⟨1, rfl, Or.inl ⟨rfl, Or.inr ⟨p, by omega, by omega, e11⟩⟩, rfl⟩
      · skip
        refine AQ.of (AS.if_eq_t (tgt := 61) eX0_isStoneOrCorner_56 (by decide) ⟨by decide, by decide⟩ (by decide)) ?_
        refine q_blk (lv2 := [(0, vr b), (1, vi x), (2, vi y), (3, vi (p + 1))]) (st2 := []) kX0_isStoneOrCorner_61 rfl ?_
        refine q_goto (tgt := 38) eX0_isStoneOrCorner_64 (by decide) ?_
        exact ih4 (p + 1) (⟨⟨by omega, by omega⟩, fun k k0 k1 => by
        by_cases e : k = p
        · subst e; exact e11
        · exact hnp k k0 (by omega)⟩) (by omega)
  · skip
    have hsv := hD.2.2.2.2.1 i i0 (by omega)
    refine q_blk (lv2 := [(0, vr b), (1, vi x), (2, vi y), (3, vi i)]) (st2 := [vi i, vr b]) kX0_isStoneOrCorner_10 rfl ?_
    refine q_Vi (av := [vi i]) (st := []) (c_X0_stoneX hB hD (by omega) (by omega)) lk_RX0_90 (by decide) rfl rfl hB.ob ⟨_, rfl, rfl⟩ (Nat.le_of_ble_eq_true rfl) eX0_isStoneOrCorner_12 (fun z12 e13 => ?_)
    subst e13
    refine q_blk (lv2 := [(0, vr b), (1, vi x), (2, vi y), (3, vi i)]) (st2 := [vi x, vi (sX D i)]) kX0_isStoneOrCorner_15 rfl ?_
    refine AQ.ic_ne (tgt := 30) eX0_isStoneOrCorner_16 (by decide) (by first | assumption | exact ⟨by omega, by omega⟩) (by first | assumption | exact ⟨by omega, by omega⟩) (fun br14 => ?_) (fun br14 => ?_)
    · skip
      refine q_blk (lv2 := [(0, vr b), (1, vi x), (2, vi y), (3, vi (i + 1))]) (st2 := []) kX0_isStoneOrCorner_30 rfl ?_
      refine q_goto (tgt := 2) eX0_isStoneOrCorner_33 (by decide) ?_
      exact ih1 (i + 1) (⟨⟨by omega, by omega⟩, fun k k0 k1 => by
      by_cases e : k = i
      · subst e; omega
      · exact hno k k0 (by omega)⟩) (by omega)
    · skip
      refine q_blk (lv2 := [(0, vr b), (1, vi x), (2, vi y), (3, vi i)]) (st2 := [vi i, vr b]) kX0_isStoneOrCorner_19 rfl ?_
      refine q_Vi (av := [vi i]) (st := []) (c_X0_stoneY hB hD (by omega) (by omega)) lk_RX0_93 (by decide) rfl rfl hB.ob ⟨_, rfl, rfl⟩ (Nat.le_of_ble_eq_true rfl) eX0_isStoneOrCorner_21 (fun z15 e16 => ?_)
      subst e16
      refine q_blk (lv2 := [(0, vr b), (1, vi x), (2, vi y), (3, vi i)]) (st2 := [vi y, vi (sY D i)]) kX0_isStoneOrCorner_24 rfl ?_
      refine AQ.ic_ne (tgt := 30) eX0_isStoneOrCorner_25 (by decide) (by first | assumption | exact ⟨by omega, by omega⟩) (by first | assumption | exact ⟨by omega, by omega⟩) (fun br17 => ?_) (fun br17 => ?_)
      · skip
        refine q_blk (lv2 := [(0, vr b), (1, vi x), (2, vi y), (3, vi (i + 1))]) (st2 := []) kX0_isStoneOrCorner_30 rfl ?_
        refine q_goto (tgt := 2) eX0_isStoneOrCorner_33 (by decide) ?_
        exact ih1 (i + 1) (⟨⟨by omega, by omega⟩, fun k k0 k1 => by
      by_cases e : k = i
      · subst e; omega
      · exact hno k k0 (by omega)⟩) (by omega)
      · skip
        refine q_blk (lv2 := [(0, vr b), (1, vi x), (2, vi y), (3, vi i)]) (st2 := [vi 1]) kX0_isStoneOrCorner_28 rfl ?_
        exact q_rz rfl eX0_isStoneOrCorner_29 (by decide) ⟨1, rfl, Or.inl ⟨rfl, Or.inl ⟨i, by omega, by omega, by omega, by omega⟩⟩, rfl⟩

set_option maxHeartbeats 1000000 in
theorem c_X0_isOccupied {w : am_w} {h : AH} {b : Nat} {D cm : Int → Int} {sc : Nat} (hB : BD h b D cm sc) (hD : VD D) {x y : Int} (h_x : am_c x) (h_y : am_c y) : AE w m_X0_isOccupied 4 [vr b, vi x, vi y] h (am_intp h (fun z => am_b z (gm_oc D x y))) := by
  refine AE.of wf_X0_isOccupied (Nat.le_of_ble_eq_true rfl) (am_ok_zp (fun z q => am_bz q)) ?_
  obtain ⟨⟨sx, sy, sv, ⟨b0, b1, b2, b3, b4, b5⟩, hst⟩, hall, hsh⟩ := id hB
  have d0 := hD.1
  have d1 := hD.2.1
  have d2 := hD.2.2.1
  have d3 := hD.2.2.2.1
  refine q_blk (lv2 := [(0, vr b), (1, vi x), (2, vi y)]) (st2 := [vi y, vi x, vr b]) kX0_isOccupied_0 rfl ?_
  refine q_Vi (av := [vi x, vi y]) (st := []) (c_X0_isStoneOrCorner hB hD h_x h_y) lk_RX0_100 (by decide) rfl rfl hB.ob ⟨_, rfl, rfl⟩ (Nat.le_of_ble_eq_true rfl) eX0_isOccupied_3 (fun z1 e2 => ?_)
  rcases e2 with ⟨rfl, e2⟩ | ⟨rfl, e2⟩
  · skip
    refine AQ.of (AS.if_eq_f eX0_isOccupied_6 ⟨by decide, by decide⟩ (by decide) (by decide)) ?_
    refine q_blk (lv2 := [(0, vr b), (1, vi x), (2, vi y)]) (st2 := [vi 1]) kX0_isOccupied_9 rfl ?_
    exact q_rz rfl eX0_isOccupied_10 (by decide) ⟨1, rfl, Or.inl ⟨rfl, Or.inl e2⟩, rfl⟩
  · skip
    refine AQ.of (AS.if_eq_t (tgt := 11) eX0_isOccupied_6 (by decide) ⟨by decide, by decide⟩ (by decide)) ?_
    refine q_blk (lv2 := [(0, vr b), (1, vi x), (2, vi y), (3, vi 0)]) (st2 := []) kX0_isOccupied_11 rfl ?_
    refine am_lp1 (I := fun (p : Int) => (0 ≤ p ∧ p ≤ D 3) ∧ ∀ k, 0 ≤ k → k < p → ¬ gm_os (gm_ns (pN D k) (pC D k)) (pN D k) (pX D k) (pY D k) x y) (μ := fun (p : Int) => (D 3 - p).toNat) (G := fun (p : Int) => AQ w m_X0_isOccupied 4 13 [(0, vr b), (1, vi x), (2, vi y), (3, vi p)] [] h (am_intp h (fun z => am_b z (gm_oc D x y)))) ?_ 0 (⟨⟨by omega, by omega⟩, fun k h0 h1 => by omega⟩)
    intro p hI4 ih3
    obtain ⟨⟨p0, p1⟩, hnp⟩ := hI4
    refine q_blk (lv2 := [(0, vr b), (1, vi x), (2, vi y), (3, vi p)]) (st2 := [vr b, vi p]) kX0_isOccupied_13 rfl ?_
    refine q_gi eX0_isOccupied_15 fl_RX0_41 (Or.inl rfl) b0 (z := (D 3)) rfl ?_
    refine AQ.ic_ge (tgt := 42) eX0_isOccupied_18 (by decide) (by first | assumption | exact ⟨by omega, by omega⟩) (by first | assumption | exact ⟨by omega, by omega⟩) (fun br5 => ?_) (fun br5 => ?_)
    · skip
      refine q_blk (lv2 := [(0, vr b), (1, vi x), (2, vi y), (3, vi p)]) (st2 := [vi 0]) kX0_isOccupied_42 rfl ?_
      exact q_rz rfl eX0_isOccupied_43 (by decide) ⟨0, rfl, Or.inr ⟨rfl, fun q => by
        rcases q with q | ⟨k, k0, k1, k2⟩
        · exact e2 q
        · exact hnp k k0 (by omega) k2⟩, rfl⟩
    · skip
      refine q_blk (lv2 := [(0, vr b), (1, vi x), (2, vi y), (3, vi p)]) (st2 := [vi p, vr b]) kX0_isOccupied_21 rfl ?_
      refine q_Vr (av := [vi p]) (st := []) (c_X0_shapeAt hB hD (by omega) (by omega)) lk_RX0_56 (by decide) rfl rfl hB.ob ⟨_, rfl, rfl⟩ (Nat.le_of_ble_eq_true rfl) eX0_isOccupied_23 (fun z6 e7 => ?_)
      subst e7
      have hS8 := hB.sh (p := p) (by omega) (by omega)
      obtain ⟨fx8, fy8, hP8, hn8, hc8, hx8⟩ := id hS8
      have hV8 := hD.vc (p := p) (by omega) (by omega)
      refine q_blk (lv2 := [(0, vr b), (1, vi x), (2, vi y), (3, vi p)]) (st2 := [vi y, vi x, vr (b + 6 + 3 * (Int.toNat p))]) kX0_isOccupied_26 rfl ?_
      refine q_Vi (av := [vi x, vi y]) (st := []) (c_X7_hasOnSide hS8 hV8 h_x h_y) lk_RX0_103 (by decide) rfl rfl hS8.ob ⟨_, rfl, rfl⟩ (Nat.le_of_ble_eq_true rfl) eX0_isOccupied_28 (fun z9 e10 => ?_)
      rcases e10 with ⟨rfl, e10⟩ | ⟨rfl, e10⟩
      · skip
        refine AQ.of (AS.if_eq_f eX0_isOccupied_31 ⟨by decide, by decide⟩ (by decide) (by decide)) ?_
        refine q_blk (lv2 := [(0, vr b), (1, vi x), (2, vi y), (3, vi p)]) (st2 := [vi 1]) kX0_isOccupied_34 rfl ?_
        exact q_rz rfl eX0_isOccupied_35 (by decide) ⟨1, rfl, Or.inl ⟨rfl, Or.inr ⟨p, by omega, by omega, e10⟩⟩, rfl⟩
      · skip
        refine AQ.of (AS.if_eq_t (tgt := 36) eX0_isOccupied_31 (by decide) ⟨by decide, by decide⟩ (by decide)) ?_
        refine q_blk (lv2 := [(0, vr b), (1, vi x), (2, vi y), (3, vi (p + 1))]) (st2 := []) kX0_isOccupied_36 rfl ?_
        refine q_goto (tgt := 13) eX0_isOccupied_39 (by decide) ?_
        exact ih3 (p + 1) (⟨⟨by omega, by omega⟩, fun k k0 k1 => by
        by_cases e : k = p
        · subst e; exact e10
        · exact hnp k k0 (by omega)⟩) (by omega)

set_option maxHeartbeats 1000000 in
theorem c_X0_smallestAround {w : am_w} {h : AH} {b : Nat} {D cm : Int → Int} {sc : Nat} (hB : BD h b D cm sc) (hD : VD D) {x y : Int} (h_x : am_c x) (h_y : am_c y) : AE w m_X0_smallestAround 4 [vr b, vi x, vi y] h (am_intp h (fun z => gm_sma D x y (D 3).toNat z ∧ -1 ≤ z ∧ z < 6)) := by
  refine AE.of wf_X0_smallestAround (Nat.le_of_ble_eq_true rfl) (am_ok_ip) ?_
  obtain ⟨⟨sx, sy, sv, ⟨b0, b1, b2, b3, b4, b5⟩, hst⟩, hall, hsh⟩ := id hB
  have d0 := hD.1
  have d1 := hD.2.1
  have d2 := hD.2.2.1
  have d3 := hD.2.2.2.1
  refine q_blk (lv2 := [(0, vr b), (1, vi x), (2, vi y), (3, vi (-1)), (4, vi 0), (5, vi 0)]) (st2 := []) kX0_smallestAround_0 rfl ?_
  refine am_lp3 (I := fun (b9 : Int) (a9 : Int) (i : Int) => (0 ≤ i ∧ i ≤ D 3) ∧ gm_sma D x y i.toNat b9 ∧ (b9 = -1 ∨ (0 ≤ b9 ∧ b9 < i ∧ a9 = gm_arD D b9))) (μ := fun (b9 : Int) (a9 : Int) (i : Int) => (D 3 - i).toNat) (G := fun (b9 : Int) (a9 : Int) (i : Int) => AQ w m_X0_smallestAround 4 8 [(0, vr b), (1, vi x), (2, vi y), (3, vi b9), (4, vi a9), (5, vi i)] [] h (am_intp h (fun z => gm_sma D x y (D 3).toNat z ∧ -1 ≤ z ∧ z < 6))) ?_ (-1) 0 0 (⟨⟨by omega, by omega⟩, rfl, Or.inl rfl⟩)
  intro b9 a9 i hI2 ih1
  obtain ⟨⟨i0, i1⟩, hm, hb⟩ := hI2
  refine q_blk (lv2 := [(0, vr b), (1, vi x), (2, vi y), (3, vi b9), (4, vi a9), (5, vi i)]) (st2 := [vr b, vi i]) kX0_smallestAround_8 rfl ?_
  refine q_gi eX0_smallestAround_11 fl_RX0_41 (Or.inl rfl) b0 (z := (D 3)) rfl ?_
  refine AQ.ic_ge (tgt := 76) eX0_smallestAround_14 (by decide) (by first | assumption | exact ⟨by omega, by omega⟩) (by first | assumption | exact ⟨by omega, by omega⟩) (fun br3 => ?_) (fun br3 => ?_)
  · skip
    refine q_blk (lv2 := [(0, vr b), (1, vi x), (2, vi y), (3, vi b9), (4, vi a9), (5, vi i)]) (st2 := [vi b9]) kX0_smallestAround_76 rfl ?_
    exact q_ri rfl eX0_smallestAround_77 ⟨b9, rfl, ⟨by obtain rfl : i = D 3 := (by omega); exact hm, by omega, by omega⟩, rfl⟩
  · skip
    refine q_blk (lv2 := [(0, vr b), (1, vi x), (2, vi y), (3, vi b9), (4, vi a9), (5, vi i)]) (st2 := [vi i, vr b]) kX0_smallestAround_17 rfl ?_
    refine q_Vr (av := [vi i]) (st := []) (c_X0_shapeAt hB hD (by omega) (by omega)) lk_RX0_56 (by decide) rfl rfl hB.ob ⟨_, rfl, rfl⟩ (Nat.le_of_ble_eq_true rfl) eX0_smallestAround_20 (fun z4 e5 => ?_)
    subst e5
    have hS6 := hB.sh (p := i) (by omega) (by omega)
    obtain ⟨fx6, fy6, hP6, hn6, hc6, hx6⟩ := id hS6
    have hV6 := hD.vc (p := i) (by omega) (by omega)
    refine q_blk (lv2 := [(0, vr b), (1, vi x), (2, vi y), (3, vi b9), (4, vi a9), (5, vi i), (6, vr (b + 6 + 3 * (Int.toNat i)))]) (st2 := [vr (b + 6 + 3 * (Int.toNat i))]) kX0_smallestAround_23 rfl ?_
    refine q_gi eX0_smallestAround_27 fl_RX0_72 (Or.inr rfl) hP6.1 (z := (pC D i)) rfl ?_
    refine AQ.if_eq (tgt := 70) eX0_smallestAround_30 (by decide) (by first | assumption | exact ⟨by omega, by omega⟩) (fun br7 => ?_) (fun br7 => ?_)
    · skip
      refine q_blk (lv2 := [(0, vr b), (1, vi x), (2, vi y), (3, vi b9), (4, vi a9), (5, vi (i + 1)), (6, vr (b + 6 + 3 * (Int.toNat i)))]) (st2 := []) kX0_smallestAround_70 rfl ?_
      refine q_goto (tgt := 8) eX0_smallestAround_73 (by decide) ?_
      refine q_sub (lv2 := [(0, vr b), (1, vi x), (2, vi y), (3, vi b9), (4, vi a9), (5, vi (i + 1))]) [0, 1, 2, 3, 4, 5] rfl ?_
      exact ih1 b9 a9 (i + 1) (⟨⟨by omega, by omega⟩, gm_sma_f i0 hm (fun q => absurd q.1 (by omega)), by rcases hb with hb | ⟨q1, q2, q3⟩; exact Or.inl hb; exact Or.inr ⟨q1, by omega, q3⟩⟩) (by omega)
    · skip
      refine q_blk (lv2 := [(0, vr b), (1, vi x), (2, vi y), (3, vi b9), (4, vi a9), (5, vi i), (6, vr (b + 6 + 3 * (Int.toNat i)))]) (st2 := [vi y, vi x, vr (b + 6 + 3 * (Int.toNat i))]) kX0_smallestAround_33 rfl ?_
      refine q_Vi (av := [vi x, vi y]) (st := []) (c_X7_situationOf hS6 hV6 (by omega) h_x h_y) lk_RX0_76 (by decide) rfl rfl hS6.ob ⟨_, rfl, rfl⟩ (Nat.le_of_ble_eq_true rfl) eX0_smallestAround_37 (fun z8 e9 => ?_)
      rcases e9 with ⟨rfl, e9⟩ | ⟨rfl, e9⟩ | ⟨rfl, e9⟩
      · skip
        refine q_blk (lv2 := [(0, vr b), (1, vi x), (2, vi y), (3, vi b9), (4, vi a9), (5, vi i), (6, vr (b + 6 + 3 * (Int.toNat i)))]) (st2 := [vi 2, vi 1]) kX0_smallestAround_40 rfl ?_
        refine AQ.of (AS.ic_ne_t (tgt := 70) eX0_smallestAround_41 (by decide) ⟨by decide, by decide⟩ ⟨by decide, by decide⟩ (by decide)) ?_
        refine q_blk (lv2 := [(0, vr b), (1, vi x), (2, vi y), (3, vi b9), (4, vi a9), (5, vi (i + 1)), (6, vr (b + 6 + 3 * (Int.toNat i)))]) (st2 := []) kX0_smallestAround_70 rfl ?_
        refine q_goto (tgt := 8) eX0_smallestAround_73 (by decide) ?_
        refine q_sub (lv2 := [(0, vr b), (1, vi x), (2, vi y), (3, vi b9), (4, vi a9), (5, vi (i + 1))]) [0, 1, 2, 3, 4, 5] rfl ?_
        exact ih1 b9 a9 (i + 1) (⟨⟨by omega, by omega⟩, gm_sma_f i0 hm (fun q => q.2.1.1 e9), by rcases hb with hb | ⟨q1, q2, q3⟩; exact Or.inl hb; exact Or.inr ⟨q1, by omega, q3⟩⟩) (by omega)
      · skip
        refine q_blk (lv2 := [(0, vr b), (1, vi x), (2, vi y), (3, vi b9), (4, vi a9), (5, vi i), (6, vr (b + 6 + 3 * (Int.toNat i)))]) (st2 := [vi 2, vi 2]) kX0_smallestAround_40 rfl ?_
        refine AQ.of (AS.ic_ne_f eX0_smallestAround_41 ⟨by decide, by decide⟩ ⟨by decide, by decide⟩ (by decide) (by decide)) ?_
        refine q_blk (lv2 := [(0, vr b), (1, vi x), (2, vi y), (3, vi b9), (4, vi a9), (5, vi i), (6, vr (b + 6 + 3 * (Int.toNat i)))]) (st2 := [vr (b + 6 + 3 * (Int.toNat i))]) kX0_smallestAround_44 rfl ?_
        refine q_Vi (av := []) (st := []) (c_X7_doubledArea hS6 hV6) lk_RX0_79 (by decide) rfl rfl hS6.ob ⟨_, rfl, rfl⟩ (Nat.le_of_ble_eq_true rfl) eX0_smallestAround_46 (fun z10 e11 => ?_)
        have hr := gm_abs_r (gm_ar_r hV6 hn6.1 hn6.2)
        refine q_blk (lv2 := [(0, vr b), (1, vi x), (2, vi y), (3, vi b9), (4, vi a9), (5, vi i), (6, vr (b + 6 + 3 * (Int.toNat i))), (7, vi z10)]) (st2 := [vi (-1), vi b9]) kX0_smallestAround_49 rfl ?_
        refine AQ.ic_eq (tgt := 63) eX0_smallestAround_53 (by decide) (by first | assumption | exact ⟨by omega, by omega⟩) ⟨by decide, by decide⟩ (fun br12 => ?_) (fun br12 => ?_)
        · skip
          refine q_blk (lv2 := [(0, vr b), (1, vi x), (2, vi y), (3, vi i), (4, vi z10), (5, vi i), (6, vr (b + 6 + 3 * (Int.toNat i))), (7, vi z10)]) (st2 := []) kX0_smallestAround_63 rfl ?_
          refine q_blk (lv2 := [(0, vr b), (1, vi x), (2, vi y), (3, vi i), (4, vi z10), (5, vi (i + 1)), (6, vr (b + 6 + 3 * (Int.toNat i))), (7, vi z10)]) (st2 := []) kX0_smallestAround_70 rfl ?_
          refine q_goto (tgt := 8) eX0_smallestAround_73 (by decide) ?_
          refine q_sub (lv2 := [(0, vr b), (1, vi x), (2, vi y), (3, vi i), (4, vi z10), (5, vi (i + 1))]) [0, 1, 2, 3, 4, 5] rfl ?_
          exact ih1 i z10 (i + 1) (⟨⟨by omega, by omega⟩, gm_sma_t i0 hm ⟨by omega, e9, by first | exact Or.inl (by omega) | (refine Or.inr ?_; unfold gm_arD; rw [← e11]; rcases hb with q | ⟨q1, q2, q3⟩; omega; unfold gm_arD at q3; rw [← q3]; omega)⟩, Or.inr ⟨by omega, by omega, by unfold gm_arD; exact e11⟩⟩) (by omega)
        · skip
          have hrb : 0 ≤ a9 ∧ a9 ≤ 10800 := by
            rcases hb with hb | ⟨q1, q2, q3⟩
            · omega
            · rw [q3]; exact gm_abs_r (gm_ar_r (hD.vc q1 (by omega)) (by have := (hD.2.2.2.2.2 b9 q1 (by omega)).2.1; omega) (by have := (hD.2.2.2.2.2 b9 q1 (by omega)).2.1; omega))
          refine q_blk (lv2 := [(0, vr b), (1, vi x), (2, vi y), (3, vi b9), (4, vi a9), (5, vi i), (6, vr (b + 6 + 3 * (Int.toNat i))), (7, vi z10)]) (st2 := [vi a9, vi z10]) kX0_smallestAround_56 rfl ?_
          refine AQ.ic_ge (tgt := 70) eX0_smallestAround_60 (by decide) (by first | assumption | exact ⟨by omega, by omega⟩) (by first | assumption | exact ⟨by omega, by omega⟩) (fun br13 => ?_) (fun br13 => ?_)
          · skip
            refine q_blk (lv2 := [(0, vr b), (1, vi x), (2, vi y), (3, vi b9), (4, vi a9), (5, vi (i + 1)), (6, vr (b + 6 + 3 * (Int.toNat i))), (7, vi z10)]) (st2 := []) kX0_smallestAround_70 rfl ?_
            refine q_goto (tgt := 8) eX0_smallestAround_73 (by decide) ?_
            refine q_sub (lv2 := [(0, vr b), (1, vi x), (2, vi y), (3, vi b9), (4, vi a9), (5, vi (i + 1))]) [0, 1, 2, 3, 4, 5] rfl ?_
            exact ih1 b9 a9 (i + 1) (⟨⟨by omega, by omega⟩, gm_sma_f i0 hm (fun q => by
            rcases hb with hb | ⟨q1, q2, q3⟩
            · omega
            · rcases q.2.2 with q4 | q4
              · omega
              · unfold gm_arD at q4 q3; rw [← e11, ← q3] at q4; omega), by rcases hb with hb | ⟨q1, q2, q3⟩; exact Or.inl hb; exact Or.inr ⟨q1, by omega, q3⟩⟩) (by omega)
          · skip
            refine q_blk (lv2 := [(0, vr b), (1, vi x), (2, vi y), (3, vi i), (4, vi z10), (5, vi i), (6, vr (b + 6 + 3 * (Int.toNat i))), (7, vi z10)]) (st2 := []) kX0_smallestAround_63 rfl ?_
            refine q_blk (lv2 := [(0, vr b), (1, vi x), (2, vi y), (3, vi i), (4, vi z10), (5, vi (i + 1)), (6, vr (b + 6 + 3 * (Int.toNat i))), (7, vi z10)]) (st2 := []) kX0_smallestAround_70 rfl ?_
            refine q_goto (tgt := 8) eX0_smallestAround_73 (by decide) ?_
            refine q_sub (lv2 := [(0, vr b), (1, vi x), (2, vi y), (3, vi i), (4, vi z10), (5, vi (i + 1))]) [0, 1, 2, 3, 4, 5] rfl ?_
            exact ih1 i z10 (i + 1) (⟨⟨by omega, by omega⟩, gm_sma_t i0 hm ⟨by omega, e9, by first | exact Or.inl (by omega) | (refine Or.inr ?_; unfold gm_arD; rw [← e11]; rcases hb with q | ⟨q1, q2, q3⟩; omega; unfold gm_arD at q3; rw [← q3]; omega)⟩, Or.inr ⟨by omega, by omega, by unfold gm_arD; exact e11⟩⟩) (by omega)
      · skip
        refine q_blk (lv2 := [(0, vr b), (1, vi x), (2, vi y), (3, vi b9), (4, vi a9), (5, vi i), (6, vr (b + 6 + 3 * (Int.toNat i)))]) (st2 := [vi 2, vi 0]) kX0_smallestAround_40 rfl ?_
        refine AQ.of (AS.ic_ne_t (tgt := 70) eX0_smallestAround_41 (by decide) ⟨by decide, by decide⟩ ⟨by decide, by decide⟩ (by decide)) ?_
        refine q_blk (lv2 := [(0, vr b), (1, vi x), (2, vi y), (3, vi b9), (4, vi a9), (5, vi (i + 1)), (6, vr (b + 6 + 3 * (Int.toNat i)))]) (st2 := []) kX0_smallestAround_70 rfl ?_
        refine q_goto (tgt := 8) eX0_smallestAround_73 (by decide) ?_
        refine q_sub (lv2 := [(0, vr b), (1, vi x), (2, vi y), (3, vi b9), (4, vi a9), (5, vi (i + 1))]) [0, 1, 2, 3, 4, 5] rfl ?_
        exact ih1 b9 a9 (i + 1) (⟨⟨by omega, by omega⟩, gm_sma_f i0 hm (fun q => e9.2 q.2.1.2), by rcases hb with hb | ⟨q1, q2, q3⟩; exact Or.inl hb; exact Or.inr ⟨q1, by omega, q3⟩⟩) (by omega)
