/-! CornerClaims$Board: what writes. -/
/-- a board's place, whatever it says -/
def BA (h : AH) (b : Nat) : Prop := (∃ D sx sy sv cm sc, BC h b D sx sy sv cm sc) ∧ ∀ p : Int, 0 ≤ p → p < 6 → ∃ n cl ow fx fy, SP h (b + 6 + 3 * p.toNat) n cl ow fx fy
theorem BD.ba {h : AH} {b : Nat} {D cm : Int → Int} {sc : Nat} (hB : BD h b D cm sc) : BA h b := by
  obtain ⟨⟨sx, sy, sv, c, -⟩, a, -⟩ := hB
  exact ⟨⟨_, _, _, _, _, _, c⟩, a⟩
theorem BC.kept {h h1 : AH} {b : Nat} {D sx sy sv cm : Int → Int} {sc : Nat} {lo hi : Nat} (hB : BC h b D sx sy sv cm sc) (f : am_fr h h1 lo hi) (hd : b + 6 ≤ lo ∨ hi ≤ b) : BC h1 b D sx sy sv cm sc := by
  obtain ⟨c0, c1, c2, c3, c4, c5⟩ := hB
  exact ⟨(f.2 _ (by omega)).trans c0, (f.2 _ (by omega)).trans c1, (f.2 _ (by omega)).trans c2, (f.2 _ (by omega)).trans c3, (f.2 _ (by omega)).trans c4, (f.2 _ (by omega)).trans c5⟩
theorem SX.sp {h : AH} {a : Nat} {n cl ow : Int} {xs ys : Int → Int} (hS : SX h a n cl ow xs ys) : ∃ n cl ow fx fy, SP h a n cl ow fx fy := by
  obtain ⟨fx, fy, hP, -⟩ := hS
  exact ⟨_, _, _, _, _, hP⟩
theorem SP.kept {h h1 : AH} {a : Nat} {n cl ow : Int} {fx fy : Int → Int} {lo hi : Nat} (hS : SP h a n cl ow fx fy) (f : am_fr h h1 lo hi) (hd : a + 3 ≤ lo ∨ hi ≤ a) : SP h1 a n cl ow fx fy := by
  obtain ⟨c1, c2, c3⟩ := hS
  exact ⟨(f.2 _ (by omega)).trans c1, (f.2 _ (by omega)).trans c2, (f.2 _ (by omega)).trans c3⟩
theorem am_sps {h h1 : AH} {b : Nat} {i : Int} (hall : ∀ p : Int, 0 ≤ p → p < 6 → ∃ n cl ow fx fy, SP h (b + 6 + 3 * p.toNat) n cl ow fx fy) (i0 : 0 ≤ i) (hs : ∃ n cl ow fx fy, SP h1 (b + 6 + 3 * i.toNat) n cl ow fx fy) (f : am_fr h h1 (b + 6 + 3 * i.toNat) (b + 6 + 3 * i.toNat + 3)) (p : Int) (p0 : 0 ≤ p) (p1 : p < 6) : ∃ n cl ow fx fy, SP h1 (b + 6 + 3 * p.toNat) n cl ow fx fy := by
  by_cases e : p = i
  · subst e; exact hs
  · obtain ⟨n, cl, ow, fx, fy, q⟩ := hall p p0 p1
    exact ⟨n, cl, ow, fx, fy, q.kept f (by omega)⟩
theorem am_spk {h h1 : AH} {b lo hi : Nat} (hall : ∀ p : Int, 0 ≤ p → p < 6 → ∃ n cl ow fx fy, SP h (b + 6 + 3 * p.toNat) n cl ow fx fy) (f : am_fr h h1 lo hi) (hd : b + 24 ≤ lo ∨ hi ≤ b + 6) (p : Int) (p0 : 0 ≤ p) (p1 : p < 6) : ∃ n cl ow fx fy, SP h1 (b + 6 + 3 * p.toNat) n cl ow fx fy := by
  obtain ⟨n, cl, ow, fx, fy, q⟩ := hall p p0 p1
  exact ⟨n, cl, ow, fx, fy, q.kept f (by omega)⟩
/-- rows that say the same board -/
def gm_same (D E : Int → Int) : Prop := E 0 = D 0 ∧ E 1 = D 1 ∧ E 2 = D 2 ∧ E 3 = D 3 ∧ (∀ k, 0 ≤ k → k < D 2 → sX E k = sX D k ∧ sY E k = sY D k ∧ sV E k = sV D k) ∧ ∀ p, 0 ≤ p → p < D 3 → pO E p = pO D p ∧ pN E p = pN D p ∧ pC E p = pC D p ∧ ∀ k, 0 ≤ k → k < pN D p → pX E p k = pX D p k ∧ pY E p k = pY D p k
theorem SX.same {h : AH} {a : Nat} {n cl ow : Int} {xs ys xs' ys' : Int → Int} (hS : SX h a n cl ow xs ys) (e : ∀ k, 0 ≤ k → k < n → xs' k = xs k ∧ ys' k = ys k) : SX h a n cl ow xs' ys' := by
  obtain ⟨fx, fy, hP, hn, hc, hx⟩ := hS
  exact ⟨fx, fy, hP, hn, hc, fun j j0 j1 => ⟨(hx j j0 j1).1.trans (e j j0 j1).1.symm, (hx j j0 j1).2.trans (e j j0 j1).2.symm⟩⟩
theorem BD.same {h : AH} {b : Nat} {D E cm : Int → Int} {sc : Nat} (hB : BD h b D cm sc) (g : gm_same D E) : BD h b E cm sc := by
  obtain ⟨⟨sx, sy, sv, c, hs⟩, ha, hp⟩ := hB
  obtain ⟨g0, g1, g2, g3, g4, g5⟩ := g
  refine ⟨⟨sx, sy, sv, ?_, fun k k0 k1 => ?_⟩, ha, fun p p0 p1 => ?_⟩
  · unfold BC at c ⊢; rw [g0, g1, g2, g3]; exact c
  · obtain ⟨q1, q2, q3⟩ := hs k k0 (by omega)
    obtain ⟨r1, r2, r3⟩ := g4 k k0 (by omega)
    exact ⟨q1.trans r1.symm, q2.trans r2.symm, q3.trans r3.symm⟩
  · obtain ⟨r1, r2, r3, r4⟩ := g5 p p0 (by omega)
    have q := hp p p0 (by omega)
    unfold SD at q ⊢
    rw [r1, r2, r3]
    exact q.same r4
def gm_emp (x y : Int) (i : Int) : Int := if i = 0 then x else if i = 1 then y else 0
def gm_addS (D : Int → Int) (x y v : Int) : Int → Int := am_uI (am_uI (am_uI (am_uI D (6 + 3 * D 2) x) (7 + 3 * D 2) y) (8 + 3 * D 2) v) 2 (D 2 + 1)
def gm_stP (D : Int → Int) (o x y : Int) : Int → Int := am_uI (am_uI (am_uI (am_uI (am_uI (am_uI D (66 + 27 * D 3) o) (67 + 27 * D 3) 1) (68 + 27 * D 3) 0) (69 + 27 * D 3) x) (70 + 27 * D 3) y) 3 (D 3 + 1)
def gm_drP (D : Int → Int) (p : Int) (i : Int) : Int := if i = 3 then D 3 - 1 else if 66 + 27 * p ≤ i ∧ i < 228 then D (i + 27) else D i

set_option maxHeartbeats 1000000 in
theorem c_X0_empty {w : am_w} {h : AH} {a : Nat} (hA : BA h a) {x y : Int} : AE w m_X0_empty 1 [vr a, vi x, vi y] h (am_unit (fun h1 => (∃ cm, BD h1 a (gm_emp x y) cm (w.2 100)) ∧ am_fr h h1 a (a + 24))) := by
  refine AE.of wf_X0_empty (Nat.le_of_ble_eq_true rfl) (am_ok_v) ?_
  obtain ⟨⟨D0, gx, gy, gv, gc, s0, a0, a1, a2, a3, a4, a5⟩, hall⟩ := id hA
  refine q_blk (lv2 := [(0, vr a), (1, vi x), (2, vi y)]) (st2 := [vi x, vr a]) kX0_empty_0 rfl ?_
  refine q_pi eX0_empty_2 fl_RX0_31 (fun q hq => by cases hq; exact Or.inl rfl) (Or.inl rfl) a0 (Nat.le_of_ble_eq_true rfl) (l2 := [0, 0, 0, 0, 0, x, (D0 1), (D0 2), (D0 3), 0]) rfl (fun h1 e2 => ?_)
  have k3 := am_at e2
  have k4 := (am_ne e2 (a + 1) (by omega)).trans a1
  have k5 := (am_ne e2 (a + 2) (by omega)).trans a2
  have k6 := (am_ne e2 (a + 3) (by omega)).trans a3
  have k7 := (am_ne e2 (a + 4) (by omega)).trans a4
  have k8 := (am_ne e2 (a + 5) (by omega)).trans a5
  refine q_blk (lv2 := [(0, vr a), (1, vi x), (2, vi y)]) (st2 := [vi y, vr a]) kX0_empty_5 rfl ?_
  refine q_pi eX0_empty_7 fl_RX0_35 (fun q hq => by cases hq; exact Or.inl rfl) (Or.inl rfl) k3 (Nat.le_of_ble_eq_true rfl) (l2 := [0, 0, 0, 0, 0, x, y, (D0 2), (D0 3), 0]) rfl (fun h9 e10 => ?_)
  have k11 := am_at e10
  have k12 := (am_ne e10 (a + 1) (by omega)).trans k4
  have k13 := (am_ne e10 (a + 2) (by omega)).trans k5
  have k14 := (am_ne e10 (a + 3) (by omega)).trans k6
  have k15 := (am_ne e10 (a + 4) (by omega)).trans k7
  have k16 := (am_ne e10 (a + 5) (by omega)).trans k8
  refine q_blk (lv2 := [(0, vr a), (1, vi x), (2, vi y)]) (st2 := [vi 0, vr a]) kX0_empty_10 rfl ?_
  refine q_pi eX0_empty_12 fl_RX0_38 (fun q hq => by cases hq; exact Or.inl rfl) (Or.inl rfl) k11 (Nat.le_of_ble_eq_true rfl) (l2 := [0, 0, 0, 0, 0, x, y, 0, (D0 3), 0]) rfl (fun h17 e18 => ?_)
  have k19 := am_at e18
  have k20 := (am_ne e18 (a + 1) (by omega)).trans k12
  have k21 := (am_ne e18 (a + 2) (by omega)).trans k13
  have k22 := (am_ne e18 (a + 3) (by omega)).trans k14
  have k23 := (am_ne e18 (a + 4) (by omega)).trans k15
  have k24 := (am_ne e18 (a + 5) (by omega)).trans k16
  refine q_blk (lv2 := [(0, vr a), (1, vi x), (2, vi y)]) (st2 := [vi 0, vr a]) kX0_empty_15 rfl ?_
  refine q_pi eX0_empty_17 fl_RX0_41 (fun q hq => by cases hq; exact Or.inl rfl) (Or.inl rfl) k19 (Nat.le_of_ble_eq_true rfl) (l2 := [0, 0, 0, 0, 0, x, y, 0, 0, 0]) rfl (fun h25 e26 => ?_)
  have k27 := am_at e26
  have k28 := (am_ne e26 (a + 1) (by omega)).trans k20
  have k29 := (am_ne e26 (a + 2) (by omega)).trans k21
  have k30 := (am_ne e26 (a + 3) (by omega)).trans k22
  have k31 := (am_ne e26 (a + 4) (by omega)).trans k23
  have k32 := (am_ne e26 (a + 5) (by omega)).trans k24
  refine q_blk (lv2 := [(0, vr a), (1, vi x), (2, vi y)]) (st2 := [vr a]) kX0_empty_20 rfl ?_
  refine AQ.of (AS.getPS eX0_empty_21 (Or.inr ⟨"CornerClaims", am_nw 121 (by decide +kernel) (by decide +kernel)⟩)) ?_
  refine q_pr eX0_empty_24 fl_RX0_47 (fun q hq => by cases hq; exact Or.inl rfl) (Or.inr ⟨_, rfl⟩) k27 (Nat.le_of_ble_eq_true rfl) (l2 := [some (a + 1), some (a + 2), some (a + 3), some (a + 4), some (a + 5), none, none, none, none, some (w.2 100)]) rfl (fun h33 e34 => ?_)
  have k35 := am_at e34
  have k36 := (am_ne e34 (a + 1) (by omega)).trans k28
  have k37 := (am_ne e34 (a + 2) (by omega)).trans k29
  have k38 := (am_ne e34 (a + 3) (by omega)).trans k30
  have k39 := (am_ne e34 (a + 4) (by omega)).trans k31
  have k40 := (am_ne e34 (a + 5) (by omega)).trans k32
  exact q_rv rfl eX0_empty_27 ⟨rfl, ⟨_, ⟨_, _, _, ⟨k35, k36, k37, k38, k39, k40⟩, fun k k0 k1 => absurd k1 (by unfold gm_emp; omega)⟩, am_spk hall (lo := a) (hi := a + 1) (((((am_fr.st e2 (by omega) (by omega)).tr (am_fr.st e10 (by omega) (by omega))).tr (am_fr.st e18 (by omega) (by omega))).tr (am_fr.st e26 (by omega) (by omega))).tr (am_fr.st e34 (by omega) (by omega))) (by omega), fun p p0 p1 => absurd p1 (by unfold gm_emp; omega)⟩, (((((am_fr.st e2 (by omega) (by omega)).tr (am_fr.st e10 (by omega) (by omega))).tr (am_fr.st e18 (by omega) (by omega))).tr (am_fr.st e26 (by omega) (by omega))).tr (am_fr.st e34 (by omega) (by omega)))⟩

set_option maxHeartbeats 1000000 in
theorem c_X0_shapeAtC {w : am_w} {h : AH} {b : Nat} {D sx sy sv cm : Int → Int} {sc : Nat} (hC : BC h b D sx sy sv cm sc) {p : Int} (p0 : 0 ≤ p) (p1 : p < 6) : AE w m_X0_shapeAt 1 [vr b, vi p] h (am_refp h (fun z => z = b + 6 + 3 * p.toNat)) := by
  refine AE.of wf_X0_shapeAt (Nat.le_of_ble_eq_true rfl) (am_ok_rp) ?_
  obtain ⟨b0, b1, b2, b3, b4, b5⟩ := id hC
  refine q_blk (lv2 := [(0, vr b), (1, vi p)]) (st2 := [vr b]) kX0_shapeAt_0 rfl ?_
  refine q_gr eX0_shapeAt_1 fl_RX0_26 (Or.inr ⟨_, rfl⟩) b0 rfl ?_
  refine q_blk (lv2 := [(0, vr b), (1, vi p)]) (st2 := [vi p, vr (b + 5)]) kX0_shapeAt_4 rfl ?_
  refine AQ.of (AS.if_lt_f eX0_shapeAt_5 (by first | assumption | exact ⟨by omega, by omega⟩) (by omega) (by decide)) ?_
  refine q_blk (lv2 := [(0, vr b), (1, vi p)]) (st2 := [vi 6, vi p, vr (b + 5)]) kX0_shapeAt_8 rfl ?_
  refine AQ.of (AS.ic_ge_f eX0_shapeAt_11 (by first | assumption | exact ⟨by omega, by omega⟩) ⟨by decide, by decide⟩ (by omega) (by decide)) ?_
  refine q_blk (lv2 := [(0, vr b), (1, vi p)]) (st2 := [vi p, vr (b + 5)]) kX0_shapeAt_14 rfl ?_
  refine q_goto (tgt := 19) eX0_shapeAt_15 (by decide) ?_
  refine q_aa eX0_shapeAt_19 b5 (by decide) (by omega) (by omega) (if_pos ⟨by omega, by omega⟩) ?_
  exact q_ra rfl eX0_shapeAt_20 ⟨(b + 6 + 3 * (Int.toNat p)), rfl, rfl, rfl⟩

theorem gm_stP_bd {h h1 h2 : AH} {a : Nat} {D sx sy sv cm : Int → Int} {sc : Nat} {o x y : Int} (hD : VD D) (hl : D 3 < 6) (hC : BC h2 a (am_uI D 3 (D 3 + 1)) sx sy sv cm sc)
    (hall : ∀ p : Int, 0 ≤ p → p < 6 → ∃ n cl ow fx fy, SP h (a + 6 + 3 * p.toNat) n cl ow fx fy) (hst : ∀ k, 0 ≤ k → k < D 2 → sx k = sX D k ∧ sy k = sY D k ∧ sv k = sV D k) (hsh : ∀ p : Int, 0 ≤ p → p < D 3 → SD h a D p)
    (hS : SX h1 (a + 6 + 3 * (D 3).toNat) 1 0 o (fun _ => x) (fun _ => y)) (f : am_fr h h1 (a + 6 + 3 * (D 3).toNat) (a + 6 + 3 * (D 3).toNat + 3)) (g : am_fr h1 h2 a (a + 1)) : BD h2 a (gm_stP D o x y) cm sc := by
  have d3 := hD.2.2.2.1
  have d2 := hD.2.2.1
  have e : ∀ i : Int, i ≠ 3 → ¬ (66 + 27 * D 3 ≤ i ∧ i ≤ 70 + 27 * D 3) → gm_stP D o x y i = D i := by
    intro i h1 h2
    unfold gm_stP am_uI
    rw [if_neg h1, if_neg (by omega), if_neg (by omega), if_neg (by omega), if_neg (by omega), if_neg (by omega)]
  have e3 : gm_stP D o x y 3 = D 3 + 1 := by unfold gm_stP am_uI; rw [if_pos rfl]
  refine ⟨⟨sx, sy, sv, ?_, fun k k0 k1 => ?_⟩, ?_, fun p p0 p1 => ?_⟩
  · unfold BC at hC ⊢
    rw [e 0 (by omega) (by omega), e 1 (by omega) (by omega), e 2 (by omega) (by omega), e3]
    exact hC
  · rw [e 2 (by omega) (by omega)] at k1
    unfold sX sY sV
    rw [e _ (by omega) (by omega), e _ (by omega) (by omega), e _ (by omega) (by omega)]
    exact hst k k0 k1
  · exact am_spk (am_sps hall d3.1 hS.sp f) g (by omega)
  · rw [e3] at p1
    unfold SD
    by_cases q : p = D 3
    · subst q
      refine SX.kept ?_ g (by omega)
      have u1 : pN (gm_stP D o x y) (D 3) = 1 := by unfold pN gm_stP am_uI; rw [if_neg (by omega), if_neg (by omega), if_neg (by omega), if_neg (by omega), if_pos rfl]
      have u2 : pC (gm_stP D o x y) (D 3) = 0 := by unfold pC gm_stP am_uI; rw [if_neg (by omega), if_neg (by omega), if_neg (by omega), if_pos rfl]
      have u3 : pO (gm_stP D o x y) (D 3) = o := by unfold pO gm_stP am_uI; rw [if_neg (by omega), if_neg (by omega), if_neg (by omega), if_neg (by omega), if_neg (by omega), if_pos rfl]
      rw [u1, u2, u3]
      refine hS.same fun k k0 k1 => ?_
      obtain rfl : k = 0 := by omega
      constructor
      · unfold pX gm_stP am_uI; rw [if_neg (by omega), if_neg (by omega), if_pos (by omega)]
      · unfold pY gm_stP am_uI; rw [if_neg (by omega), if_pos (by omega)]
    · have hv := (hD.2.2.2.2.2 p p0 (by omega)).2.1
      have q1 := hsh p p0 (by omega)
      unfold SD at q1
      have u1 : pN (gm_stP D o x y) p = pN D p := e _ (by omega) (by omega)
      have u2 : pC (gm_stP D o x y) p = pC D p := e _ (by omega) (by omega)
      have u3 : pO (gm_stP D o x y) p = pO D p := e _ (by omega) (by omega)
      rw [u1, u2, u3]
      exact (((q1.kept f (by omega)).kept g (by omega)).same fun k k0 k1 => ⟨e _ (by omega) (by omega), e _ (by omega) (by omega)⟩)

set_option maxHeartbeats 1000000 in
theorem c_X0_startShape {w : am_w} {h : AH} {b : Nat} {D cm : Int → Int} {sc : Nat} (hB : BD h b D cm sc) (hD : VD D) (hl : D 3 < 6) {o x y : Int} : AE w m_X0_startShape 3 [vr b, vi o, vi x, vi y] h (am_int (fun z h1 => z = D 3 ∧ BD h1 b (gm_stP D o x y) cm sc ∧ am_fr h h1 b (b + 24))) := by
  refine AE.of wf_X0_startShape (Nat.le_of_ble_eq_true rfl) (am_ok_i) ?_
  obtain ⟨⟨sx, sy, sv, ⟨b0, b1, b2, b3, b4, b5⟩, hst⟩, hall, hsh⟩ := id hB
  have d0 := hD.1
  have d1 := hD.2.1
  have d2 := hD.2.2.1
  have d3 := hD.2.2.2.1
  refine q_blk (lv2 := [(0, vr b), (1, vi o), (2, vi x), (3, vi y)]) (st2 := [vr b]) kX0_startShape_0 rfl ?_
  refine q_gi eX0_startShape_1 fl_RX0_41 (Or.inl rfl) b0 (z := (D 3)) rfl ?_
  refine q_blk (lv2 := [(0, vr b), (1, vi o), (2, vi x), (3, vi y)]) (st2 := [vi 6, vi (D 3)]) kX0_startShape_4 rfl ?_
  refine AQ.of (AS.ic_lt_t (tgt := 11) eX0_startShape_6 (by decide) (by first | assumption | exact ⟨by omega, by omega⟩) ⟨by decide, by decide⟩ (by omega)) ?_
  refine q_blk (lv2 := [(0, vr b), (1, vi o), (2, vi x), (3, vi y)]) (st2 := [vr b, vr b]) kX0_startShape_11 rfl ?_
  refine q_gi eX0_startShape_13 fl_RX0_41 (Or.inl rfl) b0 (z := (D 3)) rfl ?_
  obtain ⟨n0, cl0, ow0, fx0, fy0, hq⟩ := hall (D 3) (by omega) (by omega)
  refine q_Vr (av := [vi (D 3)]) (st := []) (c_X0_shapeAtC ⟨b0, b1, b2, b3, b4, b5⟩ (by omega) (by omega)) lk_RX0_56 (by decide) rfl rfl ⟨_, _, _, b0⟩ ⟨_, rfl, rfl⟩ (Nat.le_of_ble_eq_true rfl) eX0_startShape_16 (fun z1 e2 => ?_)
  subst e2
  refine q_blk (lv2 := [(0, vr b), (1, vi o), (2, vi x), (3, vi y)]) (st2 := [vi y, vi x, vi o, vr (b + 6 + 3 * (Int.toNat (D 3)))]) kX0_startShape_19 rfl ?_
  refine AQ.callVv (av := [vi o, vi x, vi y]) (st := []) (c_X7_start (xs := fx0) (ys := fy0) hq (p := o) (x := x) (y := y)) lk_RX0_64 (by decide) rfl rfl ⟨_, _, _, hq.1⟩ ⟨_, rfl, rfl⟩ (Nat.le_of_ble_eq_true rfl) eX0_startShape_22 (fun h5 e4 => ?_)
  obtain ⟨Xh5, Fh5⟩ := e4
  have k6 := (Fh5.2 b (by omega)).trans b0
  have k7 := (Fh5.2 (b + 1) (by omega)).trans b1
  have k8 := (Fh5.2 (b + 2) (by omega)).trans b2
  have k9 := (Fh5.2 (b + 3) (by omega)).trans b3
  have k10 := (Fh5.2 (b + 4) (by omega)).trans b4
  have k11 := (Fh5.2 (b + 5) (by omega)).trans b5
  refine q_blk (lv2 := [(0, vr b), (1, vi o), (2, vi x), (3, vi y)]) (st2 := [vr b, vr b]) kX0_startShape_25 rfl ?_
  refine q_gi eX0_startShape_27 fl_RX0_41 (Or.inl rfl) k6 (z := (D 3)) rfl ?_
  refine q_blk (lv2 := [(0, vr b), (1, vi o), (2, vi x), (3, vi y)]) (st2 := [vi ((D 3) + 1), vr b]) kX0_startShape_30 rfl ?_
  refine q_pi eX0_startShape_32 fl_RX0_41 (fun q hq => by cases hq; exact Or.inl rfl) (Or.inl rfl) k6 (Nat.le_of_ble_eq_true rfl) (l2 := [0, 0, 0, 0, 0, (D 0), (D 1), (D 2), ((D 3) + 1), 0]) rfl (fun h12 e13 => ?_)
  have k14 := am_at e13
  have k15 := (am_ne e13 (b + 1) (by omega)).trans k7
  have k16 := (am_ne e13 (b + 2) (by omega)).trans k8
  have k17 := (am_ne e13 (b + 3) (by omega)).trans k9
  have k18 := (am_ne e13 (b + 4) (by omega)).trans k10
  have k19 := (am_ne e13 (b + 5) (by omega)).trans k11
  refine q_blk (lv2 := [(0, vr b), (1, vi o), (2, vi x), (3, vi y)]) (st2 := [vr b]) kX0_startShape_35 rfl ?_
  refine q_gi eX0_startShape_36 fl_RX0_41 (Or.inl rfl) k14 (z := ((D 3) + 1)) rfl ?_
  refine q_blk (lv2 := [(0, vr b), (1, vi o), (2, vi x), (3, vi y)]) (st2 := [vi (((D 3) + 1) - 1)]) kX0_startShape_39 rfl ?_
  exact q_ri rfl eX0_startShape_41 ⟨(((D 3) + 1) - 1), rfl, ⟨by omega, gm_stP_bd hD (by omega) (sx := sx) (sy := sy) (sv := sv) ⟨k14, k15, k16, k17, k18, k19⟩ hall hst hsh Xh5 Fh5 (am_fr.st e13 (by omega) (by omega)), (Fh5.mo (by omega) (by omega)).tr (am_fr.st e13 (by omega) (by omega))⟩⟩

theorem gm_addS_bd {h h1 : AH} {b : Nat} {D sx sy sv cm : Int → Int} {sc : Nat} {x y v : Int} (hD : VD D) (hl : D 2 < 20) (hC : BC h1 b (am_uI D 2 (D 2 + 1)) (am_uI sx (D 2) x) (am_uI sy (D 2) y) (am_uI sv (D 2) v) cm sc)
    (hall : ∀ p : Int, 0 ≤ p → p < 6 → ∃ n cl ow fx fy, SP h (b + 6 + 3 * p.toNat) n cl ow fx fy) (hst : ∀ k, 0 ≤ k → k < D 2 → sx k = sX D k ∧ sy k = sY D k ∧ sv k = sV D k) (hsh : ∀ p : Int, 0 ≤ p → p < D 3 → SD h b D p) (g : am_fr h h1 b (b + 6)) : BD h1 b (gm_addS D x y v) cm sc := by
  have d3 := hD.2.2.2.1
  have d2 := hD.2.2.1
  have e : ∀ i : Int, i ≠ 2 → ¬ (6 + 3 * D 2 ≤ i ∧ i ≤ 8 + 3 * D 2) → gm_addS D x y v i = D i := by
    intro i h1 h2
    unfold gm_addS am_uI
    rw [if_neg h1, if_neg (by omega), if_neg (by omega), if_neg (by omega)]
  have e2 : gm_addS D x y v 2 = D 2 + 1 := by unfold gm_addS am_uI; rw [if_pos rfl]
  refine ⟨⟨am_uI sx (D 2) x, am_uI sy (D 2) y, am_uI sv (D 2) v, ?_, fun k k0 k1 => ?_⟩, am_spk hall g (by omega), fun p p0 p1 => ?_⟩
  rotate_left
  · rw [e2] at k1
    by_cases q : k = D 2
    · subst q
      rw [am_uI_at, am_uI_at, am_uI_at]
      refine ⟨?_, ?_, ?_⟩
      · unfold sX gm_addS am_uI; rw [if_neg (by omega), if_neg (by omega), if_neg (by omega), if_pos (by omega)]
      · unfold sY gm_addS am_uI; rw [if_neg (by omega), if_neg (by omega), if_pos (by omega)]
      · unfold sV gm_addS am_uI; rw [if_neg (by omega), if_pos (by omega)]
    · rw [am_uI_ne _ _ q, am_uI_ne _ _ q, am_uI_ne _ _ q]
      obtain ⟨q1, q2, q3⟩ := hst k k0 (by omega)
      exact ⟨q1.trans (e _ (by omega) (by omega)).symm, q2.trans (e _ (by omega) (by omega)).symm, q3.trans (e _ (by omega) (by omega)).symm⟩
  · rw [e 3 (by omega) (by omega)] at p1
    have hv := (hD.2.2.2.2.2 p p0 (by omega)).2.1
    have q1 := hsh p p0 (by omega)
    unfold SD at q1 ⊢
    have u1 : pN (gm_addS D x y v) p = pN D p := e _ (by omega) (by omega)
    have u2 : pC (gm_addS D x y v) p = pC D p := e _ (by omega) (by omega)
    have u3 : pO (gm_addS D x y v) p = pO D p := e _ (by omega) (by omega)
    rw [u1, u2, u3]
    exact (q1.kept g (by omega)).same fun k k0 k1 => ⟨e _ (by omega) (by omega), e _ (by omega) (by omega)⟩
  · unfold BC at hC ⊢
    rw [e 0 (by omega) (by omega), e 1 (by omega) (by omega), e2, e 3 (by omega) (by omega)]
    exact hC

set_option maxHeartbeats 1000000 in
theorem c_X0_addStone {w : am_w} {h : AH} {b : Nat} {D cm : Int → Int} {sc : Nat} (hB : BD h b D cm sc) (hD : VD D) (hl : D 2 < 20) {x y v : Int} : AE w m_X0_addStone 1 [vr b, vi x, vi y, vi v] h (am_unit (fun h1 => BD h1 b (gm_addS D x y v) cm sc ∧ am_fr h h1 b (b + 24))) := by
  refine AE.of wf_X0_addStone (Nat.le_of_ble_eq_true rfl) (am_ok_v) ?_
  obtain ⟨⟨sx, sy, sv, ⟨b0, b1, b2, b3, b4, b5⟩, hst⟩, hall, hsh⟩ := id hB
  have d0 := hD.1
  have d1 := hD.2.1
  have d2 := hD.2.2.1
  have d3 := hD.2.2.2.1
  refine q_blk (lv2 := [(0, vr b), (1, vi x), (2, vi y), (3, vi v)]) (st2 := [vr b]) kX0_addStone_0 rfl ?_
  refine q_gi eX0_addStone_1 fl_RX0_38 (Or.inl rfl) b0 (z := (D 2)) rfl ?_
  refine AQ.of (AS.if_lt_f eX0_addStone_4 (by first | assumption | exact ⟨by omega, by omega⟩) (by omega) (by decide)) ?_
  refine q_blk (lv2 := [(0, vr b), (1, vi x), (2, vi y), (3, vi v)]) (st2 := [vr b]) kX0_addStone_7 rfl ?_
  refine q_gi eX0_addStone_8 fl_RX0_38 (Or.inl rfl) b0 (z := (D 2)) rfl ?_
  refine q_blk (lv2 := [(0, vr b), (1, vi x), (2, vi y), (3, vi v)]) (st2 := [vi 20, vi (D 2)]) kX0_addStone_11 rfl ?_
  refine AQ.of (AS.ic_ge_f eX0_addStone_13 (by first | assumption | exact ⟨by omega, by omega⟩) ⟨by decide, by decide⟩ (by omega) (by decide)) ?_
  refine q_blk (lv2 := [(0, vr b), (1, vi x), (2, vi y), (3, vi v)]) (st2 := [vr b]) kX0_addStone_16 rfl ?_
  refine q_gr eX0_addStone_17 fl_RX0_9 (Or.inr ⟨_, rfl⟩) b0 rfl ?_
  refine q_blk (lv2 := [(0, vr b), (1, vi x), (2, vi y), (3, vi v)]) (st2 := [vr b, vr (b + 1)]) kX0_addStone_20 rfl ?_
  refine q_gi eX0_addStone_21 fl_RX0_38 (Or.inl rfl) b0 (z := (D 2)) rfl ?_
  refine q_blk (lv2 := [(0, vr b), (1, vi x), (2, vi y), (3, vi v)]) (st2 := [vi x, vi (D 2), vr (b + 1)]) kX0_addStone_24 rfl ?_
  refine q_is eX0_addStone_25 b1 (by omega) (by omega) (fun h1 e2 => ?_)
  have k3 := (am_ne e2 b (by omega)).trans b0
  have k4 := am_at e2
  have k5 := (am_ne e2 (b + 2) (by omega)).trans b2
  have k6 := (am_ne e2 (b + 3) (by omega)).trans b3
  have k7 := (am_ne e2 (b + 4) (by omega)).trans b4
  have k8 := (am_ne e2 (b + 5) (by omega)).trans b5
  refine q_blk (lv2 := [(0, vr b), (1, vi x), (2, vi y), (3, vi v)]) (st2 := [vr b]) kX0_addStone_26 rfl ?_
  refine q_gr eX0_addStone_27 fl_RX0_15 (Or.inr ⟨_, rfl⟩) k3 rfl ?_
  refine q_blk (lv2 := [(0, vr b), (1, vi x), (2, vi y), (3, vi v)]) (st2 := [vr b, vr (b + 2)]) kX0_addStone_30 rfl ?_
  refine q_gi eX0_addStone_31 fl_RX0_38 (Or.inl rfl) k3 (z := (D 2)) rfl ?_
  refine q_blk (lv2 := [(0, vr b), (1, vi x), (2, vi y), (3, vi v)]) (st2 := [vi y, vi (D 2), vr (b + 2)]) kX0_addStone_34 rfl ?_
  refine q_is eX0_addStone_35 k5 (by omega) (by omega) (fun h9 e10 => ?_)
  have k11 := (am_ne e10 b (by omega)).trans k3
  have k12 := (am_ne e10 (b + 1) (by omega)).trans k4
  have k13 := am_at e10
  have k14 := (am_ne e10 (b + 3) (by omega)).trans k6
  have k15 := (am_ne e10 (b + 4) (by omega)).trans k7
  have k16 := (am_ne e10 (b + 5) (by omega)).trans k8
  refine q_blk (lv2 := [(0, vr b), (1, vi x), (2, vi y), (3, vi v)]) (st2 := [vr b]) kX0_addStone_36 rfl ?_
  refine q_gr eX0_addStone_37 fl_RX0_18 (Or.inr ⟨_, rfl⟩) k11 rfl ?_
  refine q_blk (lv2 := [(0, vr b), (1, vi x), (2, vi y), (3, vi v)]) (st2 := [vr b, vr (b + 3)]) kX0_addStone_40 rfl ?_
  refine q_gi eX0_addStone_41 fl_RX0_38 (Or.inl rfl) k11 (z := (D 2)) rfl ?_
  refine q_blk (lv2 := [(0, vr b), (1, vi x), (2, vi y), (3, vi v)]) (st2 := [vi v, vi (D 2), vr (b + 3)]) kX0_addStone_44 rfl ?_
  refine q_is eX0_addStone_45 k14 (by omega) (by omega) (fun h17 e18 => ?_)
  have k19 := (am_ne e18 b (by omega)).trans k11
  have k20 := (am_ne e18 (b + 1) (by omega)).trans k12
  have k21 := (am_ne e18 (b + 2) (by omega)).trans k13
  have k22 := am_at e18
  have k23 := (am_ne e18 (b + 4) (by omega)).trans k15
  have k24 := (am_ne e18 (b + 5) (by omega)).trans k16
  refine q_blk (lv2 := [(0, vr b), (1, vi x), (2, vi y), (3, vi v)]) (st2 := [vr b, vr b]) kX0_addStone_46 rfl ?_
  refine q_gi eX0_addStone_48 fl_RX0_38 (Or.inl rfl) k19 (z := (D 2)) rfl ?_
  refine q_blk (lv2 := [(0, vr b), (1, vi x), (2, vi y), (3, vi v)]) (st2 := [vi ((D 2) + 1), vr b]) kX0_addStone_51 rfl ?_
  refine q_pi eX0_addStone_53 fl_RX0_38 (fun q hq => by cases hq; exact Or.inl rfl) (Or.inl rfl) k19 (Nat.le_of_ble_eq_true rfl) (l2 := [0, 0, 0, 0, 0, (D 0), (D 1), ((D 2) + 1), (D 3), 0]) rfl (fun h25 e26 => ?_)
  have k27 := am_at e26
  have k28 := (am_ne e26 (b + 1) (by omega)).trans k20
  have k29 := (am_ne e26 (b + 2) (by omega)).trans k21
  have k30 := (am_ne e26 (b + 3) (by omega)).trans k22
  have k31 := (am_ne e26 (b + 4) (by omega)).trans k23
  have k32 := (am_ne e26 (b + 5) (by omega)).trans k24
  exact q_rv rfl eX0_addStone_56 ⟨rfl, gm_addS_bd hD hl ⟨k27, k28, k29, k30, k31, k32⟩ hall hst hsh ((((am_fr.st e2 (by omega) (by omega)).tr (am_fr.st e10 (by omega) (by omega))).tr (am_fr.st e18 (by omega) (by omega))).tr (am_fr.st e26 (by omega) (by omega))), ((((am_fr.st e2 (by omega) (by omega)).tr (am_fr.st e10 (by omega) (by omega))).tr (am_fr.st e18 (by omega) (by omega))).tr (am_fr.st e26 (by omega) (by omega)))⟩

theorem BD.cl {h h1 : AH} {b : Nat} {D cm cm' : Int → Int} {sc : Nat} (hB : BD h b D cm sc) (e : h1 = am_set h (b + 4) (100, 20, cm', am_N)) (hn : D 3 ≤ 6) : BD h1 b D cm' sc := by
  obtain ⟨⟨sx, sy, sv, ⟨c0, c1, c2, c3, c4, c5⟩, h2⟩, h3, h4⟩ := hB
  have f : am_fr h h1 (b + 4) (b + 5) := am_fr.st e (by omega) (by omega)
  exact ⟨⟨sx, sy, sv, ⟨(f.2 _ (by omega)).trans c0, (f.2 _ (by omega)).trans c1, (f.2 _ (by omega)).trans c2, (f.2 _ (by omega)).trans c3, am_at e, (f.2 _ (by omega)).trans c5⟩, h2⟩, am_spk h3 f (by omega), fun p p0 p1 => SX.kept (h4 p p0 p1) f (by omega)⟩

set_option maxHeartbeats 1000000 in
theorem c_X0_settleClaims {w : am_w} {h : AH} {b : Nat} {D cm : Int → Int} {sc : Nat} (hB : BD h b D cm sc) (hD : VD D)  : AE w m_X0_settleClaims 5 [vr b] h (am_unit (fun h1 => ∃ cm', BD h1 b D cm' sc ∧ am_fr h h1 b (b + 24) ∧ ∀ k, 0 ≤ k → k < D 2 → gm_sma D (sX D k) (sY D k) (D 3).toNat (cm' k) ∧ -1 ≤ cm' k ∧ cm' k < 6)) := by
  refine AE.of wf_X0_settleClaims (Nat.le_of_ble_eq_true rfl) (am_ok_v) ?_
  obtain ⟨⟨sx, sy, sv, ⟨b0, b1, b2, b3, b4, b5⟩, hst⟩, hall, hsh⟩ := id hB
  have d0 := hD.1
  have d1 := hD.2.1
  have d2 := hD.2.2.1
  have d3 := hD.2.2.2.1
  refine q_blk (lv2 := [(0, vr b), (1, vi 0)]) (st2 := []) kX0_settleClaims_0 rfl ?_
  refine am_lp3 (I := fun (i : Int) (hh : AH) (gc : Int → Int) => (0 ≤ i ∧ i ≤ D 2) ∧ BD hh b D gc sc ∧ am_fr h hh b (b + 24) ∧ ∀ k, 0 ≤ k → k < i → gm_sma D (sX D k) (sY D k) (D 3).toNat (gc k) ∧ -1 ≤ gc k ∧ gc k < 6) (μ := fun (i : Int) (hh : AH) (gc : Int → Int) => (D 2 - i).toNat) (G := fun (i : Int) (hh : AH) (gc : Int → Int) => AQ w m_X0_settleClaims 5 2 [(0, vr b), (1, vi i)] [] hh (am_unit (fun h1 => ∃ cm', BD h1 b D cm' sc ∧ am_fr h h1 b (b + 24) ∧ ∀ k, 0 ≤ k → k < D 2 → gm_sma D (sX D k) (sY D k) (D 3).toNat (cm' k) ∧ -1 ≤ cm' k ∧ cm' k < 6))) ?_ 0 h cm (⟨⟨by omega, by omega⟩, hB, am_fr.rf, fun k k0 k1 => by omega⟩)
  intro i hh gc hI2 ih1
  obtain ⟨⟨i0, i1⟩, hB2, hfr, hc⟩ := hI2
  obtain ⟨⟨tx, ty, tv, ⟨c0, c1, c2, c3, c4, c5⟩, hst2⟩, -, -⟩ := id hB2
  refine q_blk (lv2 := [(0, vr b), (1, vi i)]) (st2 := [vr b, vi i]) kX0_settleClaims_2 rfl ?_
  refine q_gi eX0_settleClaims_4 fl_RX0_38 (Or.inl rfl) c0 (z := (D 2)) rfl ?_
  refine AQ.ic_ge (tgt := 44) eX0_settleClaims_7 (by decide) (by first | assumption | exact ⟨by omega, by omega⟩) (by first | assumption | exact ⟨by omega, by omega⟩) (fun br3 => ?_) (fun br3 => ?_)
  · skip
    exact q_rv rfl eX0_settleClaims_44 ⟨rfl, ⟨gc, hB2, hfr, fun k k0 k1 => hc k k0 (by omega)⟩⟩
  · skip
    refine q_blk (lv2 := [(0, vr b), (1, vi i)]) (st2 := [vi 20, vi i]) kX0_settleClaims_10 rfl ?_
    refine AQ.of (AS.ic_ge_f eX0_settleClaims_13 (by first | assumption | exact ⟨by omega, by omega⟩) ⟨by decide, by decide⟩ (by omega) (by decide)) ?_
    have hs9 := hst2 i i0 (by omega)
    have hv9 := hD.2.2.2.2.1 i i0 (by omega)
    have h_x : am_c (tx i) := by rw [hs9.1]; unfold am_c; omega
    have h_y : am_c (ty i) := by rw [hs9.2.1]; unfold am_c; omega
    refine q_blk (lv2 := [(0, vr b), (1, vi i)]) (st2 := [vr b]) kX0_settleClaims_16 rfl ?_
    refine q_gr eX0_settleClaims_17 fl_RX0_21 (Or.inr ⟨_, rfl⟩) c0 rfl ?_
    refine q_blk (lv2 := [(0, vr b), (1, vi i)]) (st2 := [vr b, vr b, vi i, vr (b + 4)]) kX0_settleClaims_20 rfl ?_
    refine q_gr eX0_settleClaims_23 fl_RX0_9 (Or.inr ⟨_, rfl⟩) c0 rfl ?_
    refine q_blk (lv2 := [(0, vr b), (1, vi i)]) (st2 := [vi i, vr (b + 1), vr b, vi i, vr (b + 4)]) kX0_settleClaims_26 rfl ?_
    refine q_ia eX0_settleClaims_27 c1 (by decide) (by omega) (by omega) (z := (tx i)) rfl ?_
    refine q_blk (lv2 := [(0, vr b), (1, vi i)]) (st2 := [vr b, vi (tx i), vr b, vi i, vr (b + 4)]) kX0_settleClaims_28 rfl ?_
    refine q_gr eX0_settleClaims_29 fl_RX0_15 (Or.inr ⟨_, rfl⟩) c0 rfl ?_
    refine q_blk (lv2 := [(0, vr b), (1, vi i)]) (st2 := [vi i, vr (b + 2), vi (tx i), vr b, vi i, vr (b + 4)]) kX0_settleClaims_32 rfl ?_
    refine q_ia eX0_settleClaims_33 c2 (by decide) (by omega) (by omega) (z := (ty i)) rfl ?_
    refine q_Vi (av := [vi (tx i), vi (ty i)]) (st := [vi i, vr (b + 4)]) (c_X0_smallestAround hB2 hD h_x h_y) lk_RX0_68 (by decide) rfl rfl hB2.ob ⟨_, rfl, rfl⟩ (Nat.le_of_ble_eq_true rfl) eX0_settleClaims_34 (fun z4 e5 => ?_)
    refine q_is eX0_settleClaims_37 c4 (by omega) (by omega) (fun h6 e7 => ?_)
    have k8 := (am_ne e7 b (by omega)).trans c0
    have k9 := (am_ne e7 (b + 1) (by omega)).trans c1
    have k10 := (am_ne e7 (b + 2) (by omega)).trans c2
    have k11 := (am_ne e7 (b + 3) (by omega)).trans c3
    have k12 := am_at e7
    have k13 := (am_ne e7 (b + 5) (by omega)).trans c5
    refine q_blk (lv2 := [(0, vr b), (1, vi (i + 1))]) (st2 := []) kX0_settleClaims_38 rfl ?_
    refine q_goto (tgt := 2) eX0_settleClaims_41 (by decide) ?_
    exact ih1 (i + 1) h6 (am_uI gc i z4) (⟨⟨by omega, by omega⟩, hB2.cl e7 (by omega), hfr.tr (am_fr.st e7 (by omega) (by omega)), fun k k0 k1 => by
      by_cases q : k = i
      · subst q
        rw [am_uI_at, ← hs9.1, ← hs9.2.1]; exact e5
      · rw [am_uI_ne _ _ q]; exact hc k k0 (by omega)⟩) (by omega)

def gm_di (p q : Int) : Int := if q < p then q else q + 1
def SE (h : AH) (b : Nat) (D : Int → Int) (q r : Int) : Prop := SX h (b + 6 + 3 * q.toNat) (pN D r) (pC D r) (pO D r) (pX D r) (pY D r)
theorem SE.kept {h h1 : AH} {b : Nat} {D : Int → Int} {q r : Int} {lo hi : Nat} (hS : SE h b D q r) (f : am_fr h h1 lo hi) (hd : b + 6 + 3 * q.toNat + 3 ≤ lo ∨ hi ≤ b + 6 + 3 * q.toNat) : SE h1 b D q r := SX.kept hS f hd
theorem gm_drP_bd {h1 h2 : AH} {b : Nat} {D sx sy sv cm : Int → Int} {sc : Nat} {p : Int} (hD : VD D) (p0 : 0 ≤ p) (p1 : p < D 3) (hC : BC h2 b (am_uI D 3 (D 3 - 1)) sx sy sv cm sc)
    (hall : ∀ p : Int, 0 ≤ p → p < 6 → ∃ n cl ow fx fy, SP h1 (b + 6 + 3 * p.toNat) n cl ow fx fy) (hst : ∀ k, 0 ≤ k → k < D 2 → sx k = sX D k ∧ sy k = sY D k ∧ sv k = sV D k) (hsh : ∀ q : Int, 0 ≤ q → q < D 3 - 1 → SE h1 b D q (gm_di p q)) (g : am_fr h1 h2 b (b + 1)) : BD h2 b (gm_drP D p) cm sc := by
  have d3 := hD.2.2.2.1
  have d2 := hD.2.2.1
  have e : ∀ i : Int, i ≠ 3 → i < 66 + 27 * p → gm_drP D p i = D i := by
    intro i h1 h2
    unfold gm_drP
    rw [if_neg h1, if_neg (by omega)]
  have e2 : ∀ i : Int, 66 + 27 * p ≤ i → i < 228 → gm_drP D p i = D (i + 27) := by
    intro i h1 h2
    unfold gm_drP
    rw [if_neg (by omega), if_pos ⟨h1, h2⟩]
  have e3 : gm_drP D p 3 = D 3 - 1 := by unfold gm_drP; rw [if_pos rfl]
  refine ⟨⟨sx, sy, sv, ?_, fun k k0 k1 => ?_⟩, am_spk hall g (by omega), fun q q0 q1 => ?_⟩
  · unfold BC at hC ⊢
    rw [e 0 (by omega) (by omega), e 1 (by omega) (by omega), e 2 (by omega) (by omega), e3]
    exact hC
  · rw [e 2 (by omega) (by omega)] at k1
    unfold sX sY sV
    rw [e _ (by omega) (by omega), e _ (by omega) (by omega), e _ (by omega) (by omega)]
    exact hst k k0 k1
  · rw [e3] at q1
    have u := (hsh q q0 q1).kept g (by omega)
    unfold SE gm_di at u
    unfold SD
    by_cases c : q < p
    · have hv := (hD.2.2.2.2.2 q q0 (by omega)).2.1
      rw [if_pos c] at u
      have u1 : pN (gm_drP D p) q = pN D q := e _ (by omega) (by omega)
      have u2 : pC (gm_drP D p) q = pC D q := e _ (by omega) (by omega)
      have u3 : pO (gm_drP D p) q = pO D q := e _ (by omega) (by omega)
      rw [u1, u2, u3]
      exact u.same fun k k0 k1 => ⟨e _ (by omega) (by omega), e _ (by omega) (by omega)⟩
    · have hv := (hD.2.2.2.2.2 (q + 1) (by omega) (by omega)).2.1
      rw [if_neg c] at u
      have u1 : pN (gm_drP D p) q = pN D (q + 1) := by unfold pN; rw [e2 _ (by omega) (by omega)]; congr 1; omega
      have u2 : pC (gm_drP D p) q = pC D (q + 1) := by unfold pC; rw [e2 _ (by omega) (by omega)]; congr 1; omega
      have u3 : pO (gm_drP D p) q = pO D (q + 1) := by unfold pO; rw [e2 _ (by omega) (by omega)]; congr 1; omega
      rw [u1, u2, u3]
      exact u.same fun k k0 k1 => ⟨by unfold pX; rw [e2 _ (by omega) (by omega)]; congr 1; omega, by unfold pY; rw [e2 _ (by omega) (by omega)]; congr 1; omega⟩

set_option maxHeartbeats 1000000 in
theorem c_X0_dropShape {w : am_w} {h : AH} {b : Nat} {D cm : Int → Int} {sc : Nat} (hB : BD h b D cm sc) (hD : VD D) {p : Int} (p0 : 0 ≤ p) (p1 : p < D 3) : AE w m_X0_dropShape 4 [vr b, vi p] h (am_unit (fun h1 => BD h1 b (gm_drP D p) cm sc ∧ am_fr h h1 b (b + 24))) := by
  refine AE.of wf_X0_dropShape (Nat.le_of_ble_eq_true rfl) (am_ok_v) ?_
  obtain ⟨⟨sx, sy, sv, ⟨b0, b1, b2, b3, b4, b5⟩, hst⟩, hall, hsh⟩ := id hB
  have d0 := hD.1
  have d1 := hD.2.1
  have d2 := hD.2.2.1
  have d3 := hD.2.2.2.1
  refine q_blk (lv2 := [(0, vr b), (1, vi p)]) (st2 := [vi p]) kX0_dropShape_0 rfl ?_
  refine AQ.of (AS.if_lt_f eX0_dropShape_1 (by first | assumption | exact ⟨by omega, by omega⟩) (by omega) (by decide)) ?_
  refine q_blk (lv2 := [(0, vr b), (1, vi p)]) (st2 := [vr b, vi p]) kX0_dropShape_4 rfl ?_
  refine q_gi eX0_dropShape_6 fl_RX0_41 (Or.inl rfl) b0 (z := (D 3)) rfl ?_
  refine AQ.of (AS.ic_lt_t (tgt := 13) eX0_dropShape_9 (by decide) (by first | assumption | exact ⟨by omega, by omega⟩) (by first | assumption | exact ⟨by omega, by omega⟩) (by omega)) ?_
  refine q_blk (lv2 := [(0, vr b), (1, vi p), (2, vi (p + 1))]) (st2 := []) kX0_dropShape_13 rfl ?_
  refine am_lp2 (I := fun (k : Int) (hh : AH) => (p + 1 ≤ k ∧ k ≤ D 3) ∧ BC hh b D sx sy sv cm sc ∧ am_fr h hh b (b + 24) ∧ (∀ q : Int, 0 ≤ q → q < 6 → ∃ n cl ow fx fy, SP hh (b + 6 + 3 * q.toNat) n cl ow fx fy) ∧ (∀ q, 0 ≤ q → q < k - 1 → SE hh b D q (gm_di p q)) ∧ ∀ q, k - 1 < q → q < D 3 → SE hh b D q q) (μ := fun (k : Int) (hh : AH) => (D 3 - k).toNat) (G := fun (k : Int) (hh : AH) => AQ w m_X0_dropShape 4 17 [(0, vr b), (1, vi p), (2, vi k)] [] hh (am_unit (fun h1 => BD h1 b (gm_drP D p) cm sc ∧ am_fr h h1 b (b + 24)))) ?_ (p + 1) h (⟨⟨by omega, by omega⟩, ⟨b0, b1, b2, b3, b4, b5⟩, am_fr.rf, hall, fun q q0 q1 => by unfold gm_di; rw [if_pos (by omega)]; exact hsh q q0 (by omega), fun q q0 q1 => hsh q (by omega) q1⟩)
  intro k hh hI2 ih1
  obtain ⟨⟨k0, k1⟩, ⟨c0, c1, c2, c3, c4, c5⟩, hfr, hall2, hL, hR⟩ := hI2
  refine q_blk (lv2 := [(0, vr b), (1, vi p), (2, vi k)]) (st2 := [vr b, vi k]) kX0_dropShape_17 rfl ?_
  refine q_gi eX0_dropShape_19 fl_RX0_41 (Or.inl rfl) c0 (z := (D 3)) rfl ?_
  refine AQ.ic_ge (tgt := 46) eX0_dropShape_22 (by decide) (by first | assumption | exact ⟨by omega, by omega⟩) (by first | assumption | exact ⟨by omega, by omega⟩) (fun br3 => ?_) (fun br3 => ?_)
  · skip
    refine q_blk (lv2 := [(0, vr b), (1, vi p), (2, vi k)]) (st2 := [vr b, vr b]) kX0_dropShape_46 rfl ?_
    refine q_gi eX0_dropShape_48 fl_RX0_41 (Or.inl rfl) c0 (z := (D 3)) rfl ?_
    refine q_blk (lv2 := [(0, vr b), (1, vi p), (2, vi k)]) (st2 := [vi ((D 3) - 1), vr b]) kX0_dropShape_51 rfl ?_
    refine q_pi eX0_dropShape_53 fl_RX0_41 (fun q hq => by cases hq; exact Or.inl rfl) (Or.inl rfl) c0 (Nat.le_of_ble_eq_true rfl) (l2 := [0, 0, 0, 0, 0, (D 0), (D 1), (D 2), ((D 3) - 1), 0]) rfl (fun h4 e5 => ?_)
    have k6 := am_at e5
    have k7 := (am_ne e5 (b + 1) (by omega)).trans c1
    have k8 := (am_ne e5 (b + 2) (by omega)).trans c2
    have k9 := (am_ne e5 (b + 3) (by omega)).trans c3
    have k10 := (am_ne e5 (b + 4) (by omega)).trans c4
    have k11 := (am_ne e5 (b + 5) (by omega)).trans c5
    exact q_rv rfl eX0_dropShape_56 ⟨rfl, gm_drP_bd hD p0 p1 ⟨k6, k7, k8, k9, k10, k11⟩ hall2 hst (fun q q0 q1 => hL q q0 (by omega)) (am_fr.st e5 (by omega) (by omega)), hfr.tr (am_fr.st e5 (by omega) (by omega))⟩
  · skip
    obtain ⟨n0, cl0, ow0, fx0, fy0, hq⟩ := hall2 (k - 1) (by omega) (by omega)
    have hS2 := hR k (by omega) (by omega)
    unfold SE at hS2
    refine q_blk (lv2 := [(0, vr b), (1, vi p), (2, vi k)]) (st2 := [vi (k - 1), vr b]) kX0_dropShape_25 rfl ?_
    refine q_Vr (av := [vi (k - 1)]) (st := []) (c_X0_shapeAtC ⟨c0, c1, c2, c3, c4, c5⟩ (by omega) (by omega)) lk_RX0_56 (by decide) rfl rfl ⟨_, _, _, c0⟩ ⟨_, rfl, rfl⟩ (Nat.le_of_ble_eq_true rfl) eX0_dropShape_29 (fun z12 e13 => ?_)
    subst e13
    refine q_blk (lv2 := [(0, vr b), (1, vi p), (2, vi k)]) (st2 := [vi k, vr b, vr (b + 6 + 3 * (Int.toNat (k - 1)))]) kX0_dropShape_32 rfl ?_
    refine q_Vr (av := [vi k]) (st := [vr (b + 6 + 3 * (Int.toNat (k - 1)))]) (c_X0_shapeAtC ⟨c0, c1, c2, c3, c4, c5⟩ (by omega) (by omega)) lk_RX0_56 (by decide) rfl rfl ⟨_, _, _, c0⟩ ⟨_, rfl, rfl⟩ (Nat.le_of_ble_eq_true rfl) eX0_dropShape_34 (fun z14 e15 => ?_)
    subst e15
    refine AQ.callVv (av := [vr (b + 6 + 3 * (Int.toNat k))]) (st := []) (c_X7_copyFrom hq hS2 (by omega)) lk_RX0_60 (by decide) rfl rfl ⟨_, _, _, hq.1⟩ ⟨_, rfl, rfl⟩ (Nat.le_of_ble_eq_true rfl) eX0_dropShape_37 (fun h18 e17 => ?_)
    obtain ⟨Xh18, Fh18⟩ := e17
    have k19 := (Fh18.2 b (by omega)).trans c0
    have k20 := (Fh18.2 (b + 1) (by omega)).trans c1
    have k21 := (Fh18.2 (b + 2) (by omega)).trans c2
    have k22 := (Fh18.2 (b + 3) (by omega)).trans c3
    have k23 := (Fh18.2 (b + 4) (by omega)).trans c4
    have k24 := (Fh18.2 (b + 5) (by omega)).trans c5
    refine q_blk (lv2 := [(0, vr b), (1, vi p), (2, vi (k + 1))]) (st2 := []) kX0_dropShape_40 rfl ?_
    refine q_goto (tgt := 17) eX0_dropShape_43 (by decide) ?_
    exact ih1 (k + 1) h18 (⟨⟨by omega, by omega⟩, ⟨k19, k20, k21, k22, k23, k24⟩, hfr.tr (Fh18.mo (by omega) (by omega)), am_sps hall2 (by omega) Xh18.sp Fh18, fun q q0 q1 => by
      by_cases c : q = k - 1
      · subst c
        unfold SE gm_di; rw [if_neg (by omega), show k - 1 + 1 = k by omega]; exact Xh18
      · exact (hL q q0 (by omega)).kept Fh18 (by omega), fun q q0 q1 => (hR q (by omega) q1).kept Fh18 (by omega)⟩) (by omega)

set_option maxHeartbeats 1000000 in
theorem c_X0_copyFrom {w : am_w} {h : AH} {b : Nat} {D cm : Int → Int} {sc : Nat} (hB : BD h b D cm sc) (hD : VD D) {a : Nat} (hA : BA h a) (hd : a + 24 ≤ b ∨ b + 24 ≤ a) : AE w m_X0_copyFrom 4 [vr a, vr b] h (am_unit (fun h1 => (∃ cm', BD h1 a D cm' sc ∧ ∀ k, 0 ≤ k → k < 20 → cm' k = cm k) ∧ am_fr h h1 a (a + 24))) := by
  refine AE.of wf_X0_copyFrom (Nat.le_of_ble_eq_true rfl) (am_ok_v) ?_
  obtain ⟨⟨sx, sy, sv, ⟨b0, b1, b2, b3, b4, b5⟩, hst⟩, hall, hsh⟩ := id hB
  have d0 := hD.1
  have d1 := hD.2.1
  have d2 := hD.2.2.1
  have d3 := hD.2.2.2.1
  obtain ⟨⟨D0, gx, gy, gv, gc, s0, a0, a1, a2, a3, a4, a5⟩, halla⟩ := id hA
  refine q_blk (lv2 := [(0, vr a), (1, vr b)]) (st2 := [vr b]) kX0_copyFrom_0 rfl ?_
  refine q_gr eX0_copyFrom_1 fl_RX0_9 (Or.inr ⟨_, rfl⟩) b0 rfl ?_
  refine q_blk (lv2 := [(0, vr a), (1, vr b)]) (st2 := [vr a, vi 0, vr (b + 1)]) kX0_copyFrom_4 rfl ?_
  refine q_gr eX0_copyFrom_6 fl_RX0_9 (Or.inr ⟨_, rfl⟩) a0 rfl ?_
  refine q_blk (lv2 := [(0, vr a), (1, vr b)]) (st2 := [vi 20, vi 0, vr (a + 1), vi 0, vr (b + 1)]) kX0_copyFrom_9 rfl ?_
  refine q_ac eX0_copyFrom_12 b1 a1 (by omega) (by omega) (by omega) (by omega) (by omega) (am_gw 452 (by decide +kernel) (by decide +kernel)) (am_gw 454 (by decide +kernel) (by decide +kernel)) (am_gw 453 (by decide +kernel) (by decide +kernel)) (am_gw 57 (by decide +kernel) (by decide +kernel)) (by decide) (Nat.le_of_ble_eq_true rfl) (fun h1 e2 => ?_)
  have k3 := (am_ne e2 a (by omega)).trans a0
  have k4 := am_at e2
  have k5 := (am_ne e2 (a + 2) (by omega)).trans a2
  have k6 := (am_ne e2 (a + 3) (by omega)).trans a3
  have k7 := (am_ne e2 (a + 4) (by omega)).trans a4
  have k8 := (am_ne e2 (a + 5) (by omega)).trans a5
  have k9 := (am_ne e2 b (by omega)).trans b0
  have k10 := (am_ne e2 (b + 1) (by omega)).trans b1
  have k11 := (am_ne e2 (b + 2) (by omega)).trans b2
  have k12 := (am_ne e2 (b + 3) (by omega)).trans b3
  have k13 := (am_ne e2 (b + 4) (by omega)).trans b4
  have k14 := (am_ne e2 (b + 5) (by omega)).trans b5
  refine q_blk (lv2 := [(0, vr a), (1, vr b)]) (st2 := [vr b]) kX0_copyFrom_15 rfl ?_
  refine q_gr eX0_copyFrom_16 fl_RX0_15 (Or.inr ⟨_, rfl⟩) k9 rfl ?_
  refine q_blk (lv2 := [(0, vr a), (1, vr b)]) (st2 := [vr a, vi 0, vr (b + 2)]) kX0_copyFrom_19 rfl ?_
  refine q_gr eX0_copyFrom_21 fl_RX0_15 (Or.inr ⟨_, rfl⟩) k3 rfl ?_
  refine q_blk (lv2 := [(0, vr a), (1, vr b)]) (st2 := [vi 20, vi 0, vr (a + 2), vi 0, vr (b + 2)]) kX0_copyFrom_24 rfl ?_
  refine q_ac eX0_copyFrom_27 k11 k5 (by omega) (by omega) (by omega) (by omega) (by omega) (am_gw 452 (by decide +kernel) (by decide +kernel)) (am_gw 454 (by decide +kernel) (by decide +kernel)) (am_gw 453 (by decide +kernel) (by decide +kernel)) (am_gw 57 (by decide +kernel) (by decide +kernel)) (by decide) (Nat.le_of_ble_eq_true rfl) (fun h15 e16 => ?_)
  have k17 := (am_ne e16 a (by omega)).trans k3
  have k18 := (am_ne e16 (a + 1) (by omega)).trans k4
  have k19 := am_at e16
  have k20 := (am_ne e16 (a + 3) (by omega)).trans k6
  have k21 := (am_ne e16 (a + 4) (by omega)).trans k7
  have k22 := (am_ne e16 (a + 5) (by omega)).trans k8
  have k23 := (am_ne e16 b (by omega)).trans k9
  have k24 := (am_ne e16 (b + 1) (by omega)).trans k10
  have k25 := (am_ne e16 (b + 2) (by omega)).trans k11
  have k26 := (am_ne e16 (b + 3) (by omega)).trans k12
  have k27 := (am_ne e16 (b + 4) (by omega)).trans k13
  have k28 := (am_ne e16 (b + 5) (by omega)).trans k14
  refine q_blk (lv2 := [(0, vr a), (1, vr b)]) (st2 := [vr b]) kX0_copyFrom_30 rfl ?_
  refine q_gr eX0_copyFrom_31 fl_RX0_18 (Or.inr ⟨_, rfl⟩) k23 rfl ?_
  refine q_blk (lv2 := [(0, vr a), (1, vr b)]) (st2 := [vr a, vi 0, vr (b + 3)]) kX0_copyFrom_34 rfl ?_
  refine q_gr eX0_copyFrom_36 fl_RX0_18 (Or.inr ⟨_, rfl⟩) k17 rfl ?_
  refine q_blk (lv2 := [(0, vr a), (1, vr b)]) (st2 := [vi 20, vi 0, vr (a + 3), vi 0, vr (b + 3)]) kX0_copyFrom_39 rfl ?_
  refine q_ac eX0_copyFrom_42 k26 k20 (by omega) (by omega) (by omega) (by omega) (by omega) (am_gw 452 (by decide +kernel) (by decide +kernel)) (am_gw 454 (by decide +kernel) (by decide +kernel)) (am_gw 453 (by decide +kernel) (by decide +kernel)) (am_gw 57 (by decide +kernel) (by decide +kernel)) (by decide) (Nat.le_of_ble_eq_true rfl) (fun h29 e30 => ?_)
  have k31 := (am_ne e30 a (by omega)).trans k17
  have k32 := (am_ne e30 (a + 1) (by omega)).trans k18
  have k33 := (am_ne e30 (a + 2) (by omega)).trans k19
  have k34 := am_at e30
  have k35 := (am_ne e30 (a + 4) (by omega)).trans k21
  have k36 := (am_ne e30 (a + 5) (by omega)).trans k22
  have k37 := (am_ne e30 b (by omega)).trans k23
  have k38 := (am_ne e30 (b + 1) (by omega)).trans k24
  have k39 := (am_ne e30 (b + 2) (by omega)).trans k25
  have k40 := (am_ne e30 (b + 3) (by omega)).trans k26
  have k41 := (am_ne e30 (b + 4) (by omega)).trans k27
  have k42 := (am_ne e30 (b + 5) (by omega)).trans k28
  refine q_blk (lv2 := [(0, vr a), (1, vr b)]) (st2 := [vr b]) kX0_copyFrom_45 rfl ?_
  refine q_gr eX0_copyFrom_46 fl_RX0_21 (Or.inr ⟨_, rfl⟩) k37 rfl ?_
  refine q_blk (lv2 := [(0, vr a), (1, vr b)]) (st2 := [vr a, vi 0, vr (b + 4)]) kX0_copyFrom_49 rfl ?_
  refine q_gr eX0_copyFrom_51 fl_RX0_21 (Or.inr ⟨_, rfl⟩) k31 rfl ?_
  refine q_blk (lv2 := [(0, vr a), (1, vr b)]) (st2 := [vi 20, vi 0, vr (a + 4), vi 0, vr (b + 4)]) kX0_copyFrom_54 rfl ?_
  refine q_ac eX0_copyFrom_57 k41 k35 (by omega) (by omega) (by omega) (by omega) (by omega) (am_gw 452 (by decide +kernel) (by decide +kernel)) (am_gw 454 (by decide +kernel) (by decide +kernel)) (am_gw 453 (by decide +kernel) (by decide +kernel)) (am_gw 57 (by decide +kernel) (by decide +kernel)) (by decide) (Nat.le_of_ble_eq_true rfl) (fun h43 e44 => ?_)
  have k45 := (am_ne e44 a (by omega)).trans k31
  have k46 := (am_ne e44 (a + 1) (by omega)).trans k32
  have k47 := (am_ne e44 (a + 2) (by omega)).trans k33
  have k48 := (am_ne e44 (a + 3) (by omega)).trans k34
  have k49 := am_at e44
  have k50 := (am_ne e44 (a + 5) (by omega)).trans k36
  have k51 := (am_ne e44 b (by omega)).trans k37
  have k52 := (am_ne e44 (b + 1) (by omega)).trans k38
  have k53 := (am_ne e44 (b + 2) (by omega)).trans k39
  have k54 := (am_ne e44 (b + 3) (by omega)).trans k40
  have k55 := (am_ne e44 (b + 4) (by omega)).trans k41
  have k56 := (am_ne e44 (b + 5) (by omega)).trans k42
  refine q_blk (lv2 := [(0, vr a), (1, vr b), (2, vi 0)]) (st2 := []) kX0_copyFrom_60 rfl ?_
  refine am_lp2 (I := fun (i : Int) (hh : AH) => (0 ≤ i ∧ i ≤ D 3) ∧ BC hh a D0 (am_cpy sx gx 0 0 20) (am_cpy sy gy 0 0 20) (am_cpy sv gv 0 0 20) (am_cpy cm gc 0 0 20) s0 ∧ am_fr h hh a (a + 24) ∧ (∀ q : Int, 0 ≤ q → q < 6 → ∃ n cl ow fx fy, SP hh (a + 6 + 3 * q.toNat) n cl ow fx fy) ∧ ∀ q, 0 ≤ q → q < i → SE hh a D q q) (μ := fun (i : Int) (hh : AH) => (D 3 - i).toNat) (G := fun (i : Int) (hh : AH) => AQ w m_X0_copyFrom 4 62 [(0, vr a), (1, vr b), (2, vi i)] [] hh (am_unit (fun h1 => (∃ cm', BD h1 a D cm' sc ∧ ∀ k, 0 ≤ k → k < 20 → cm' k = cm k) ∧ am_fr h h1 a (a + 24)))) ?_ 0 h43 (⟨⟨by omega, by omega⟩, ⟨k45, k46, k47, k48, k49, k50⟩, ((((am_fr.st e2 (by omega) (by omega)).tr (am_fr.st e16 (by omega) (by omega))).tr (am_fr.st e30 (by omega) (by omega))).tr (am_fr.st e44 (by omega) (by omega))), am_spk halla (lo := a) (hi := a + 6) ((((am_fr.st e2 (by omega) (by omega)).tr (am_fr.st e16 (by omega) (by omega))).tr (am_fr.st e30 (by omega) (by omega))).tr (am_fr.st e44 (by omega) (by omega))) (by omega), fun q q0 q1 => by omega⟩)
  intro i hh hI58 ih57
  obtain ⟨⟨i0, i1⟩, ⟨c0, c1, c2, c3, c4, c5⟩, hfr, hall2, hL⟩ := hI58
  have hB2 := hB.kept hfr (by omega) (by omega)
  obtain ⟨⟨ux, uy, uv, ⟨t0, t1, t2, t3, t4, t5⟩, -⟩, hallb, hshb⟩ := id hB2
  refine q_blk (lv2 := [(0, vr a), (1, vr b), (2, vi i)]) (st2 := [vr b, vi i]) kX0_copyFrom_62 rfl ?_
  refine q_gi eX0_copyFrom_64 fl_RX0_41 (Or.inl rfl) t0 (z := (D 3)) rfl ?_
  refine AQ.ic_ge (tgt := 89) eX0_copyFrom_67 (by decide) (by first | assumption | exact ⟨by omega, by omega⟩) (by first | assumption | exact ⟨by omega, by omega⟩) (fun br59 => ?_) (fun br59 => ?_)
  · skip
    refine q_blk (lv2 := [(0, vr a), (1, vr b), (2, vi i)]) (st2 := [vr b, vr a]) kX0_copyFrom_89 rfl ?_
    refine q_gi eX0_copyFrom_91 fl_RX0_31 (Or.inl rfl) t0 (z := (D 0)) rfl ?_
    refine q_pi eX0_copyFrom_94 fl_RX0_31 (fun q hq => by cases hq; exact Or.inl rfl) (Or.inl rfl) c0 (Nat.le_of_ble_eq_true rfl) (l2 := [0, 0, 0, 0, 0, (D 0), (D0 1), (D0 2), (D0 3), 0]) rfl (fun h60 e61 => ?_)
    have k62 := am_at e61
    have k63 := (am_ne e61 (a + 1) (by omega)).trans c1
    have k64 := (am_ne e61 (a + 2) (by omega)).trans c2
    have k65 := (am_ne e61 (a + 3) (by omega)).trans c3
    have k66 := (am_ne e61 (a + 4) (by omega)).trans c4
    have k67 := (am_ne e61 (a + 5) (by omega)).trans c5
    have k68 := (am_ne e61 b (by omega)).trans t0
    have k69 := (am_ne e61 (b + 1) (by omega)).trans t1
    have k70 := (am_ne e61 (b + 2) (by omega)).trans t2
    have k71 := (am_ne e61 (b + 3) (by omega)).trans t3
    have k72 := (am_ne e61 (b + 4) (by omega)).trans t4
    have k73 := (am_ne e61 (b + 5) (by omega)).trans t5
    refine q_blk (lv2 := [(0, vr a), (1, vr b), (2, vi i)]) (st2 := [vr b, vr a]) kX0_copyFrom_97 rfl ?_
    refine q_gi eX0_copyFrom_99 fl_RX0_35 (Or.inl rfl) k68 (z := (D 1)) rfl ?_
    refine q_pi eX0_copyFrom_102 fl_RX0_35 (fun q hq => by cases hq; exact Or.inl rfl) (Or.inl rfl) k62 (Nat.le_of_ble_eq_true rfl) (l2 := [0, 0, 0, 0, 0, (D 0), (D 1), (D0 2), (D0 3), 0]) rfl (fun h74 e75 => ?_)
    have k76 := am_at e75
    have k77 := (am_ne e75 (a + 1) (by omega)).trans k63
    have k78 := (am_ne e75 (a + 2) (by omega)).trans k64
    have k79 := (am_ne e75 (a + 3) (by omega)).trans k65
    have k80 := (am_ne e75 (a + 4) (by omega)).trans k66
    have k81 := (am_ne e75 (a + 5) (by omega)).trans k67
    have k82 := (am_ne e75 b (by omega)).trans k68
    have k83 := (am_ne e75 (b + 1) (by omega)).trans k69
    have k84 := (am_ne e75 (b + 2) (by omega)).trans k70
    have k85 := (am_ne e75 (b + 3) (by omega)).trans k71
    have k86 := (am_ne e75 (b + 4) (by omega)).trans k72
    have k87 := (am_ne e75 (b + 5) (by omega)).trans k73
    refine q_blk (lv2 := [(0, vr a), (1, vr b), (2, vi i)]) (st2 := [vr b, vr a]) kX0_copyFrom_105 rfl ?_
    refine q_gi eX0_copyFrom_107 fl_RX0_38 (Or.inl rfl) k82 (z := (D 2)) rfl ?_
    refine q_pi eX0_copyFrom_110 fl_RX0_38 (fun q hq => by cases hq; exact Or.inl rfl) (Or.inl rfl) k76 (Nat.le_of_ble_eq_true rfl) (l2 := [0, 0, 0, 0, 0, (D 0), (D 1), (D 2), (D0 3), 0]) rfl (fun h88 e89 => ?_)
    have k90 := am_at e89
    have k91 := (am_ne e89 (a + 1) (by omega)).trans k77
    have k92 := (am_ne e89 (a + 2) (by omega)).trans k78
    have k93 := (am_ne e89 (a + 3) (by omega)).trans k79
    have k94 := (am_ne e89 (a + 4) (by omega)).trans k80
    have k95 := (am_ne e89 (a + 5) (by omega)).trans k81
    have k96 := (am_ne e89 b (by omega)).trans k82
    have k97 := (am_ne e89 (b + 1) (by omega)).trans k83
    have k98 := (am_ne e89 (b + 2) (by omega)).trans k84
    have k99 := (am_ne e89 (b + 3) (by omega)).trans k85
    have k100 := (am_ne e89 (b + 4) (by omega)).trans k86
    have k101 := (am_ne e89 (b + 5) (by omega)).trans k87
    refine q_blk (lv2 := [(0, vr a), (1, vr b), (2, vi i)]) (st2 := [vr b, vr a]) kX0_copyFrom_113 rfl ?_
    refine q_gi eX0_copyFrom_115 fl_RX0_41 (Or.inl rfl) k96 (z := (D 3)) rfl ?_
    refine q_pi eX0_copyFrom_118 fl_RX0_41 (fun q hq => by cases hq; exact Or.inl rfl) (Or.inl rfl) k90 (Nat.le_of_ble_eq_true rfl) (l2 := [0, 0, 0, 0, 0, (D 0), (D 1), (D 2), (D 3), 0]) rfl (fun h102 e103 => ?_)
    have k104 := am_at e103
    have k105 := (am_ne e103 (a + 1) (by omega)).trans k91
    have k106 := (am_ne e103 (a + 2) (by omega)).trans k92
    have k107 := (am_ne e103 (a + 3) (by omega)).trans k93
    have k108 := (am_ne e103 (a + 4) (by omega)).trans k94
    have k109 := (am_ne e103 (a + 5) (by omega)).trans k95
    have k110 := (am_ne e103 b (by omega)).trans k96
    have k111 := (am_ne e103 (b + 1) (by omega)).trans k97
    have k112 := (am_ne e103 (b + 2) (by omega)).trans k98
    have k113 := (am_ne e103 (b + 3) (by omega)).trans k99
    have k114 := (am_ne e103 (b + 4) (by omega)).trans k100
    have k115 := (am_ne e103 (b + 5) (by omega)).trans k101
    refine q_blk (lv2 := [(0, vr a), (1, vr b), (2, vi i)]) (st2 := [vr b, vr a]) kX0_copyFrom_121 rfl ?_
    refine q_gr eX0_copyFrom_123 fl_RX0_47 (Or.inr ⟨_, rfl⟩) k110 rfl ?_
    refine q_pr eX0_copyFrom_126 fl_RX0_47 (fun q hq => by cases hq; exact Or.inl rfl) (Or.inr ⟨_, rfl⟩) k104 (Nat.le_of_ble_eq_true rfl) (l2 := [some (a + 1), some (a + 2), some (a + 3), some (a + 4), some (a + 5), none, none, none, none, some sc]) rfl (fun h116 e117 => ?_)
    have k118 := am_at e117
    have k119 := (am_ne e117 (a + 1) (by omega)).trans k105
    have k120 := (am_ne e117 (a + 2) (by omega)).trans k106
    have k121 := (am_ne e117 (a + 3) (by omega)).trans k107
    have k122 := (am_ne e117 (a + 4) (by omega)).trans k108
    have k123 := (am_ne e117 (a + 5) (by omega)).trans k109
    have k124 := (am_ne e117 b (by omega)).trans k110
    have k125 := (am_ne e117 (b + 1) (by omega)).trans k111
    have k126 := (am_ne e117 (b + 2) (by omega)).trans k112
    have k127 := (am_ne e117 (b + 3) (by omega)).trans k113
    have k128 := (am_ne e117 (b + 4) (by omega)).trans k114
    have k129 := (am_ne e117 (b + 5) (by omega)).trans k115
    exact q_rv rfl eX0_copyFrom_129 ⟨rfl, ⟨⟨_, ⟨⟨_, _, _, ⟨k118, k119, k120, k121, k122, k123⟩, fun k k0 k1 => by unfold am_cpy; rw [if_pos (by omega), if_pos (by omega), if_pos (by omega), show 0 + (k - 0) = k by omega]; exact hst k k0 k1⟩, am_spk hall2 (lo := a) (hi := a + 6) (((((am_fr.st e61 (by omega) (by omega)).tr (am_fr.st e75 (by omega) (by omega))).tr (am_fr.st e89 (by omega) (by omega))).tr (am_fr.st e103 (by omega) (by omega))).tr (am_fr.st e117 (by omega) (by omega))) (by omega), fun q q0 q1 => SE.kept (hL q q0 (by omega)) (lo := a) (hi := a + 6) (((((am_fr.st e61 (by omega) (by omega)).tr (am_fr.st e75 (by omega) (by omega))).tr (am_fr.st e89 (by omega) (by omega))).tr (am_fr.st e103 (by omega) (by omega))).tr (am_fr.st e117 (by omega) (by omega))) (by omega)⟩, fun k k0 k1 => by unfold am_cpy; rw [if_pos (by omega), show 0 + (k - 0) = k by omega]⟩, hfr.tr (((((am_fr.st e61 (by omega) (by omega)).tr (am_fr.st e75 (by omega) (by omega))).tr (am_fr.st e89 (by omega) (by omega))).tr (am_fr.st e103 (by omega) (by omega))).tr (am_fr.st e117 (by omega) (by omega)))⟩⟩
  · skip
    obtain ⟨n0, cl0, ow0, fx0, fy0, hq⟩ := hall2 i (by omega) (by omega)
    have hS2 := hshb i (by omega) (by omega)
    unfold SD at hS2
    refine q_blk (lv2 := [(0, vr a), (1, vr b), (2, vi i)]) (st2 := [vi i, vr a]) kX0_copyFrom_70 rfl ?_
    refine q_Vr (av := [vi i]) (st := []) (c_X0_shapeAtC ⟨c0, c1, c2, c3, c4, c5⟩ (by omega) (by omega)) lk_RX0_56 (by decide) rfl rfl ⟨_, _, _, c0⟩ ⟨_, rfl, rfl⟩ (Nat.le_of_ble_eq_true rfl) eX0_copyFrom_72 (fun z130 e131 => ?_)
    subst e131
    refine q_blk (lv2 := [(0, vr a), (1, vr b), (2, vi i)]) (st2 := [vi i, vr b, vr (a + 6 + 3 * (Int.toNat i))]) kX0_copyFrom_75 rfl ?_
    refine q_Vr (av := [vi i]) (st := [vr (a + 6 + 3 * (Int.toNat i))]) (c_X0_shapeAtC ⟨t0, t1, t2, t3, t4, t5⟩ (by omega) (by omega)) lk_RX0_56 (by decide) rfl rfl ⟨_, _, _, t0⟩ ⟨_, rfl, rfl⟩ (Nat.le_of_ble_eq_true rfl) eX0_copyFrom_77 (fun z132 e133 => ?_)
    subst e133
    refine AQ.callVv (av := [vr (b + 6 + 3 * (Int.toNat i))]) (st := []) (c_X7_copyFrom hq hS2 (by omega)) lk_RX0_60 (by decide) rfl rfl ⟨_, _, _, hq.1⟩ ⟨_, rfl, rfl⟩ (Nat.le_of_ble_eq_true rfl) eX0_copyFrom_80 (fun h136 e135 => ?_)
    obtain ⟨Xh136, Fh136⟩ := e135
    have k137 := (Fh136.2 a (by omega)).trans c0
    have k138 := (Fh136.2 (a + 1) (by omega)).trans c1
    have k139 := (Fh136.2 (a + 2) (by omega)).trans c2
    have k140 := (Fh136.2 (a + 3) (by omega)).trans c3
    have k141 := (Fh136.2 (a + 4) (by omega)).trans c4
    have k142 := (Fh136.2 (a + 5) (by omega)).trans c5
    have k143 := (Fh136.2 b (by omega)).trans t0
    have k144 := (Fh136.2 (b + 1) (by omega)).trans t1
    have k145 := (Fh136.2 (b + 2) (by omega)).trans t2
    have k146 := (Fh136.2 (b + 3) (by omega)).trans t3
    have k147 := (Fh136.2 (b + 4) (by omega)).trans t4
    have k148 := (Fh136.2 (b + 5) (by omega)).trans t5
    refine q_blk (lv2 := [(0, vr a), (1, vr b), (2, vi (i + 1))]) (st2 := []) kX0_copyFrom_83 rfl ?_
    refine q_goto (tgt := 62) eX0_copyFrom_86 (by decide) ?_
    exact ih57 (i + 1) h136 (⟨⟨by omega, by omega⟩, ⟨k137, k138, k139, k140, k141, k142⟩, hfr.tr (Fh136.mo (by omega) (by omega)), am_sps hall2 (by omega) Xh136.sp Fh136, fun q q0 q1 => by
      by_cases c : q = i
      · subst c; exact Xh136
      · exact (hL q q0 (by omega)).kept Fh136 (by omega)⟩) (by omega)
