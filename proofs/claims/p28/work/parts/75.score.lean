/-! The law's Field: scores, points, the sum. -/
theorem LSH.loc {h h1 : AH} {B : Nat → Prop} {a : Nat} {n cl ow : Int} {xs ys : Int → Int} (hS : LSH h B a n cl ow xs ys) (F : ∀ q, B q → h1.1 q = h.1 q) : LSH h1 B a n cl ow xs ys := by
  obtain ⟨ca, c, ⟨b1, b2⟩, c0, c1, hx⟩ := hS
  exact ⟨ca, c, ⟨b1, b2⟩, (F _ b1).trans c0, (F _ b2).trans c1, hx⟩
/-- the score's expression: none, or one that stands there -/
def TRM (h : AH) (B : Nat → Prop) (T : Option Nat) (L : GL) : Prop := (T = none ∧ L = gm_pln) ∨ ∃ q X d, T = some q ∧ d ≤ 2 ∧ NT h B d q L X
theorem TRM.mv {h h1 : AH} {B B1 : Nat → Prop} {T : Option Nat} {L : GL} (hT : TRM h B T L) (F : ∀ q, B q → h1.1 q = h.1 q) (hB : ∀ q, B q → B1 q) : TRM h1 B1 T L := by
  rcases hT with h0 | ⟨q, X, d, e, k, n⟩
  · exact Or.inl h0
  · exact Or.inr ⟨q, X, d, e, k, n.mv F hB⟩
/-- points inside, by the sides, as both count them -/
theorem gm_lin_i {D : Int → Int} (hX : FX D) {p : Int} (p0 : 0 ≤ p) (p1 : p < D 3) (hc : pC D p = 1) : gm_lin (pN D p) (pX D p) (pY D p) = gm_inn (pN D p) (pX D p) (pY D p) := by
  obtain ⟨a, b, c⟩ := gm_pick_D hX.1 hX.2.1.ve hX.2.2.1 p0 p1 hc
  have d : gm_abs (gm_ar (pN D p) (pX D p) (pY D p)) = gm_arD D p := rfl
  rw [b]
  unfold gm_lin
  rw [d, c, show 2 * gm_ca D p 2 + gm_bo (pN D p) (pX D p) (pY D p) - 2 - gm_bo (pN D p) (pX D p) (pY D p) = (gm_ca D p 2 - 1) * 2 by omega, Int.mul_tdiv_cancel _ (by decide)]
  omega
theorem gm_sc_p {D cm : Int → Int} {p a b z : Int} (ha : gm_fg D cm p 0 = a) (hb : gm_fg D cm p 1 = b) (h0 : 0 ≤ a ∧ a ≤ 10800) (h1 : -2000 ≤ b ∧ b ≤ 2000) (e : z = gm_li 99999 (a + b)) : z = gm_sc D cm gm_pln p := by
  unfold gm_sc gm_pln
  show z = gm_li 99999 ((gm_li 1000000 (gm_op 2 (gm_fg D cm p 0) (gm_fg D cm p 1)) :: []).headD 0)
  rw [ha, hb, e]
  show gm_li 99999 (a + b) = gm_li 99999 (gm_li 1000000 (a + b))
  congr 1
  unfold gm_li
  rw [if_neg (by omega), if_neg (by omega)]
theorem gm_sc_t {D cm : Int → Int} {L : GL} {p v z : Int} (hv : NV (gm_fg D cm p) L v) (e : z = gm_li 99999 v) : z = gm_sc D cm L p := by
  unfold gm_sc
  rw [hv.2]
  exact e

set_option maxRecDepth 4000 in
set_option maxHeartbeats 4000000 in
theorem c_X9_scoreN {w : am_w} {h : AH} {B : Nat → Prop} {f sa pa : Nat} {gs gp : Int → Option Nat} {D : Int → Int} (hF : FLD h B f sa pa gs gp none D) (hX : FX D) {cm : Int → Int} (hU : UQ D cm) (hcr : ∀ k, 0 ≤ k → k < D 2 → -1 ≤ cm k ∧ cm k < 6) (hb : ∀ q, B q → q < h.2.1) {p : Int} (p0 : 0 ≤ p) (p1 : p < D 3) (hcl : pC D p = 1)  : AE w m_X9_score 70 [vr f, vi p] h (am_int (fun z h1 => z = gm_sc D cm gm_pln p ∧ KF h h1 NO 1 5)) := by
  refine AE.of wf_X9_score (Nat.le_of_ble_eq_true rfl) (am_ok_i) ?_
  have hD := hX.1
  obtain ⟨⟨bf, bs, bp⟩, C0, ⟨fz1, C1⟩, ⟨fz2, C2⟩, hst, hsh, hij⟩ := id hF
  have d0 := hD.1
  have d1 := hD.2.1
  have d2 := hD.2.2.1
  have d3 := hD.2.2.2.1
  have hf := hb _ bf
  have hsa := hb _ bs
  have hpa := hb _ bp
  refine q_blk (lv2 := [(0, vr f), (1, vi p)]) (st2 := [vr f]) kX9_score_0 rfl ?_
  refine q_gr eX9_score_1 fl_RX9_24 (Or.inr ⟨_, rfl⟩) C0 rfl ?_
  refine q_blk (lv2 := [(0, vr f), (1, vi p)]) (st2 := [vi p, vr pa]) kX9_score_4 rfl ?_
  obtain ⟨q1, g1, l1⟩ := hsh p (by omega) (by omega)
  obtain ⟨ca1, cf1, ⟨w1, u1⟩, c1, d1, e1⟩ := id l1
  obtain ⟨⟨o1, o1'⟩, ⟨n1, n1'⟩, cc1, xy1⟩ := hD.2.2.2.2.2 p (by omega) (by omega)
  have vc1 := hD.vc (p := p) (by omega) (by omega)
  have ar1 := gm_ar_r vc1 (by omega) n1'
  have bq1 := hb _ w1
  have bc1 := hb _ u1
  refine q_aa eX9_score_5 C2 (by decide) (by omega) (by omega) g1 ?_
  refine q_blk (lv2 := [(0, vr f), (1, vi p), (2, vr q1), (3, vi 0), (4, vi 0)]) (st2 := []) kX9_score_6 rfl ?_
  refine am_lp2 (I := fun (s : Int) (k : Int) => (0 ≤ k ∧ k ≤ D 2) ∧ s = gm_sm (gm_if cm p (sV D)) k.toNat) (μ := fun (s : Int) (k : Int) => (D 2 - k).toNat) (G := fun (s : Int) (k : Int) => AQ w m_X9_score 70 12 [(0, vr f), (1, vi p), (2, vr q1), (3, vi s), (4, vi k)] [] h (am_int (fun z h1 => z = gm_sc D cm gm_pln p ∧ KF h h1 NO 1 5))) ?_ 0 0 (⟨⟨by omega, by omega⟩, rfl⟩)
  intro s k hI3 ih2
  obtain ⟨⟨k0, k1⟩, hs⟩ := hI3
  refine q_blk (lv2 := [(0, vr f), (1, vi p), (2, vr q1), (3, vi s), (4, vi k)]) (st2 := [vr f, vi k]) kX9_score_12 rfl ?_
  refine q_gr eX9_score_15 fl_RX9_18 (Or.inr ⟨_, rfl⟩) C0 rfl ?_
  refine q_al eX9_score_18 C1 (by decide) ?_
  refine AQ.ic_ge (tgt := 50) eX9_score_19 (by decide) (by first | assumption | exact ⟨by omega, by omega⟩ | exact ⟨by decide, by decide⟩) (by first | assumption | exact ⟨by omega, by omega⟩ | exact ⟨by decide, by decide⟩) (fun br4 => ?_) (fun br4 => ?_)
  · skip
    have ek : k = D 2 := by omega
    have hs2 := hs
    rw [ek] at hs2
    have rs := gm_sm_le (f := gm_if cm p (sV D)) (B := 99) (m := (D 2).toNat) (fun j j0 j1 => by unfold gm_if; split <;> (try have := hD.2.2.2.2.1 j j0 (by omega)) <;> omega)
    refine q_blk (lv2 := [(0, vr f), (1, vi p), (2, vr q1), (3, vi s), (4, vi k)]) (st2 := [vr q1]) kX9_score_50 rfl ?_
    refine q_Vi (av := []) (st := []) (c_X12_doubled l1 vc1 n1 n1') lk_RX9_87 (by decide) rfl rfl l1.ob ⟨_, rfl, rfl⟩ (Nat.le_of_ble_eq_true rfl) eX9_score_51 (fun z5 e6 => ?_)
    subst e6
    refine AQ.of (AS.mabs eX9_score_54 (by first | assumption | exact ⟨by omega, by omega⟩ | exact ⟨by decide, by decide⟩) (am_gw 606 (by decide +kernel) (by decide +kernel)) (am_gw 372 (by decide +kernel) (by decide +kernel)) (am_gw 53 (by decide +kernel) (by decide +kernel)) (am_gw 373 (by decide +kernel) (by decide +kernel)) (by decide) (Nat.le_of_ble_eq_true rfl)) ?_
    obtain ⟨z7, e8⟩ : ∃ q : Int, q = (if 0 ≤ (gm_ar (pN D p) (pX D p) (pY D p)) then (gm_ar (pN D p) (pX D p) (pY D p)) else -(gm_ar (pN D p) (pX D p) (pY D p))) := ⟨_, rfl⟩
    rw [← e8]
    have ea : z7 = gm_arD D p := e8
    have ra : 0 ≤ z7 ∧ z7 ≤ 10800 := by rw [ea]; exact gm_abs_r ar1
    refine q_blk (lv2 := [(0, vr f), (1, vi p), (2, vr q1), (3, vi s), (4, vi z7)]) (st2 := [vr f]) kX9_score_57 rfl ?_
    refine q_gn eX9_score_60 fl_RX9_29 (Or.inl ⟨_, rfl⟩) C0 (r := none) rfl ?_
    refine AQ.of (AS.nn_f eX9_score_63) ?_
    refine q_blk (lv2 := [(0, vr f), (1, vi p), (2, vr q1), (3, vi s), (4, vi z7)]) (st2 := [vi (z7 + s)]) kX9_score_66 rfl ?_
    refine AQ.of (AS.i2l eX9_score_70 (by first | assumption | exact ⟨by omega, by omega⟩ | exact ⟨by decide, by decide⟩)) ?_
    refine q_goto (tgt := 120) eX9_score_71 (by decide) ?_
    refine q_blk (lv2 := [(0, vr f), (1, vi p), (2, vr q1), (3, vi s), (4, vi z7), (5, vl (z7 + s))]) (st2 := []) kX9_score_120 rfl ?_
    refine AQ.of (AS.ldc2 (z := (-99999)) eX9_score_122 (am_gw 1567 (by decide +kernel) (by decide +kernel))) ?_
    refine AQ.of (AS.ldc2 (z := 99999) eX9_score_125 (am_gw 1568 (by decide +kernel) (by decide +kernel))) ?_
    refine q_blk (lv2 := [(0, vr f), (1, vi p), (2, vr q1), (3, vi s), (4, vi z7), (5, vl (z7 + s))]) (st2 := [vl (z7 + s), vl 99999, vl (-99999)]) kX9_score_128 rfl ?_
    refine AQ.of (AS.mminL eX9_score_130 ⟨by decide, by decide⟩ (by first | assumption | exact ⟨by omega, by omega⟩ | exact ⟨by decide, by decide⟩) (am_gw 1569 (by decide +kernel) (by decide +kernel)) (am_gw 434 (by decide +kernel) (by decide +kernel)) (am_gw 53 (by decide +kernel) (by decide +kernel)) (am_gw 435 (by decide +kernel) (by decide +kernel)) (by decide) (Nat.le_of_ble_eq_true rfl)) ?_
    obtain ⟨z9, e10⟩ : ∃ q : Int, q = (if (z7 + s) < 99999 then (z7 + s) else 99999) := ⟨_, rfl⟩
    rw [← e10]
    refine AQ.of (AS.mmaxL eX9_score_133 ⟨by decide, by decide⟩ (by first | assumption | exact ⟨by omega, by omega⟩ | exact ⟨by decide, by decide⟩) (am_gw 1570 (by decide +kernel) (by decide +kernel)) (am_gw 437 (by decide +kernel) (by decide +kernel)) (am_gw 53 (by decide +kernel) (by decide +kernel)) (am_gw 438 (by decide +kernel) (by decide +kernel)) (by decide) (Nat.le_of_ble_eq_true rfl)) ?_
    obtain ⟨z11, e12⟩ : ∃ q : Int, q = (if z9 < (-99999) then (-99999) else z9) := ⟨_, rfl⟩
    rw [← e12]
    refine AQ.of (AS.l2i eX9_score_136) ?_
    exact q_ri rfl eX9_score_137 ⟨z11, rfl, (gm_sc_p (a := z7) (b := s) ea.symm hs2.symm ra (by omega) (by unfold gm_li; split <;> (try split) <;> omega)), ⟨(fun _ _ _ => rfl), ⟨by omega, by omega⟩, by omega, by omega⟩⟩
  · skip
    refine q_blk (lv2 := [(0, vr f), (1, vi p), (2, vr q1), (3, vi s), (4, vi k)]) (st2 := [vi k, vr f]) kX9_score_22 rfl ?_
    refine q_Vi (av := [vi k]) (st := []) (c_X9_claimer hF hD hU (k := k) (by omega) (by omega)) lk_RX9_97 (by decide) rfl rfl hF.ob ⟨_, rfl, rfl⟩ (Nat.le_of_ble_eq_true rfl) eX9_score_25 (fun z13 e14 => ?_)
    subst e14
    have ck := hcr k k0 (by omega)
    refine q_blk (lv2 := [(0, vr f), (1, vi p), (2, vr q1), (3, vi s), (4, vi k)]) (st2 := [vi p, vi (cm k)]) kX9_score_28 rfl ?_
    refine AQ.ic_ne (tgt := 44) eX9_score_29 (by decide) (by first | assumption | exact ⟨by omega, by omega⟩ | exact ⟨by decide, by decide⟩) (by first | assumption | exact ⟨by omega, by omega⟩ | exact ⟨by decide, by decide⟩) (fun br15 => ?_) (fun br15 => ?_)
    · skip
      refine q_blk (lv2 := [(0, vr f), (1, vi p), (2, vr q1), (3, vi s), (4, vi (k + 1))]) (st2 := []) kX9_score_44 rfl ?_
      refine q_goto (tgt := 12) eX9_score_47 (by decide) ?_
      exact ih2 s (k + 1) (⟨⟨by omega, by omega⟩, by rw [gm_sm_s _ k0, ← hs]; unfold gm_if; split <;> omega⟩) (by omega)
    · skip
      refine q_blk (lv2 := [(0, vr f), (1, vi p), (2, vr q1), (3, vi s), (4, vi k)]) (st2 := [vr f, vi s]) kX9_score_32 rfl ?_
      refine q_gr eX9_score_34 fl_RX9_18 (Or.inr ⟨_, rfl⟩) C0 rfl ?_
      refine q_blk (lv2 := [(0, vr f), (1, vi p), (2, vr q1), (3, vi s), (4, vi k)]) (st2 := [vi k, vr sa, vi s]) kX9_score_37 rfl ?_
      obtain ⟨q16, f16, g16, w16, c16, x16, y16, v16⟩ := hst k (by omega) (by omega)
      have b16 := hD.2.2.2.2.1 k (by omega) (by omega)
      refine q_aa eX9_score_39 C1 (by decide) (by omega) (by omega) g16 ?_
      refine q_blk (lv2 := [(0, vr f), (1, vi p), (2, vr q1), (3, vi s), (4, vi k)]) (st2 := [vi 2, vr q16, vi s]) kX9_score_40 rfl ?_
      refine q_ia eX9_score_41 c16 (by decide) (by omega) (by omega) (z := (sV D k)) v16 ?_
      refine q_blk (lv2 := [(0, vr f), (1, vi p), (2, vr q1), (3, vi (s + (sV D k))), (4, vi k)]) (st2 := []) kX9_score_42 rfl ?_
      refine q_blk (lv2 := [(0, vr f), (1, vi p), (2, vr q1), (3, vi (s + (sV D k))), (4, vi (k + 1))]) (st2 := []) kX9_score_44 rfl ?_
      refine q_goto (tgt := 12) eX9_score_47 (by decide) ?_
      exact ih2 (s + (sV D k)) (k + 1) (⟨⟨by omega, by omega⟩, by rw [gm_sm_s _ k0, ← hs]; unfold gm_if; split <;> omega⟩) (by omega)

set_option maxRecDepth 4000 in
set_option maxHeartbeats 8000000 in
theorem c_X9_scoreS {w : am_w} {h : AH} {B : Nat → Prop} {f sa pa : Nat} {gs gp : Int → Option Nat} {tq : Nat} {D : Int → Int} (hF : FLD h B f sa pa gs gp (some tq) D) (hX : FX D) {cm : Int → Int} (hU : UQ D cm) (hcr : ∀ k, 0 ≤ k → k < D 2 → -1 ≤ cm k ∧ cm k < 6) (hb : ∀ q, B q → q < h.2.1) {p : Int} (p0 : 0 ≤ p) (p1 : p < D 3) (hcl : pC D p = 1) {Bn : Nat → Prop} {dd : Nat} {L : GL} {X : Int → List Int} (hN : NT h Bn dd tq L X) (hdd : dd ≤ 2) (hbn : ∀ q, Bn q → q < h.2.1)  : AE w m_X9_score 70 [vr f, vi p] h (am_int (fun z h1 => z = gm_sc D cm L p ∧ KF h h1 NO 1 5)) := by
  refine AE.of wf_X9_score (Nat.le_of_ble_eq_true rfl) (am_ok_i) ?_
  have hD := hX.1
  obtain ⟨⟨bf, bs, bp⟩, C0, ⟨fz1, C1⟩, ⟨fz2, C2⟩, hst, hsh, hij⟩ := id hF
  have d0 := hD.1
  have d1 := hD.2.1
  have d2 := hD.2.2.1
  have d3 := hD.2.2.2.1
  have hf := hb _ bf
  have hsa := hb _ bs
  have hpa := hb _ bp
  have htq := hbn _ hN.b.1
  have r3 : -1000000 ≤ gm_de (pN D p) (pX D p) (pY D p) ∧ gm_de (pN D p) (pX D p) (pY D p) ≤ 1000000 := gm_fg_r (cm := cm) hD p0 p1 3
  have r4 : -1000000 ≤ gm_lin (pN D p) (pX D p) (pY D p) ∧ gm_lin (pN D p) (pX D p) (pY D p) ≤ 1000000 := by rw [gm_lin_i hX p0 p1 hcl]; exact gm_fg_r (cm := cm) hD p0 p1 4
  refine q_blk (lv2 := [(0, vr f), (1, vi p)]) (st2 := [vr f]) kX9_score_0 rfl ?_
  refine q_gr eX9_score_1 fl_RX9_24 (Or.inr ⟨_, rfl⟩) C0 rfl ?_
  refine q_blk (lv2 := [(0, vr f), (1, vi p)]) (st2 := [vi p, vr pa]) kX9_score_4 rfl ?_
  obtain ⟨q1, g1, l1⟩ := hsh p (by omega) (by omega)
  obtain ⟨ca1, cf1, ⟨w1, u1⟩, c1, d1, e1⟩ := id l1
  obtain ⟨⟨o1, o1'⟩, ⟨n1, n1'⟩, cc1, xy1⟩ := hD.2.2.2.2.2 p (by omega) (by omega)
  have vc1 := hD.vc (p := p) (by omega) (by omega)
  have ar1 := gm_ar_r vc1 (by omega) n1'
  have bq1 := hb _ w1
  have bc1 := hb _ u1
  refine q_aa eX9_score_5 C2 (by decide) (by omega) (by omega) g1 ?_
  refine q_blk (lv2 := [(0, vr f), (1, vi p), (2, vr q1), (3, vi 0), (4, vi 0)]) (st2 := []) kX9_score_6 rfl ?_
  refine am_lp2 (I := fun (s : Int) (k : Int) => (0 ≤ k ∧ k ≤ D 2) ∧ s = gm_sm (gm_if cm p (sV D)) k.toNat) (μ := fun (s : Int) (k : Int) => (D 2 - k).toNat) (G := fun (s : Int) (k : Int) => AQ w m_X9_score 70 12 [(0, vr f), (1, vi p), (2, vr q1), (3, vi s), (4, vi k)] [] h (am_int (fun z h1 => z = gm_sc D cm L p ∧ KF h h1 NO 1 5))) ?_ 0 0 (⟨⟨by omega, by omega⟩, rfl⟩)
  intro s k hI3 ih2
  obtain ⟨⟨k0, k1⟩, hs⟩ := hI3
  refine q_blk (lv2 := [(0, vr f), (1, vi p), (2, vr q1), (3, vi s), (4, vi k)]) (st2 := [vr f, vi k]) kX9_score_12 rfl ?_
  refine q_gr eX9_score_15 fl_RX9_18 (Or.inr ⟨_, rfl⟩) C0 rfl ?_
  refine q_al eX9_score_18 C1 (by decide) ?_
  refine AQ.ic_ge (tgt := 50) eX9_score_19 (by decide) (by first | assumption | exact ⟨by omega, by omega⟩ | exact ⟨by decide, by decide⟩) (by first | assumption | exact ⟨by omega, by omega⟩ | exact ⟨by decide, by decide⟩) (fun br4 => ?_) (fun br4 => ?_)
  · skip
    have ek : k = D 2 := by omega
    have hs2 := hs
    rw [ek] at hs2
    have rs := gm_sm_le (f := gm_if cm p (sV D)) (B := 99) (m := (D 2).toNat) (fun j j0 j1 => by unfold gm_if; split <;> (try have := hD.2.2.2.2.1 j j0 (by omega)) <;> omega)
    refine q_blk (lv2 := [(0, vr f), (1, vi p), (2, vr q1), (3, vi s), (4, vi k)]) (st2 := [vr q1]) kX9_score_50 rfl ?_
    refine q_Vi (av := []) (st := []) (c_X12_doubled l1 vc1 n1 n1') lk_RX9_87 (by decide) rfl rfl l1.ob ⟨_, rfl, rfl⟩ (Nat.le_of_ble_eq_true rfl) eX9_score_51 (fun z5 e6 => ?_)
    subst e6
    refine AQ.of (AS.mabs eX9_score_54 (by first | assumption | exact ⟨by omega, by omega⟩ | exact ⟨by decide, by decide⟩) (am_gw 606 (by decide +kernel) (by decide +kernel)) (am_gw 372 (by decide +kernel) (by decide +kernel)) (am_gw 53 (by decide +kernel) (by decide +kernel)) (am_gw 373 (by decide +kernel) (by decide +kernel)) (by decide) (Nat.le_of_ble_eq_true rfl)) ?_
    obtain ⟨z7, e8⟩ : ∃ q : Int, q = (if 0 ≤ (gm_ar (pN D p) (pX D p) (pY D p)) then (gm_ar (pN D p) (pX D p) (pY D p)) else -(gm_ar (pN D p) (pX D p) (pY D p))) := ⟨_, rfl⟩
    rw [← e8]
    have ea : z7 = gm_arD D p := e8
    have ra : 0 ≤ z7 ∧ z7 ≤ 10800 := by rw [ea]; exact gm_abs_r ar1
    refine q_blk (lv2 := [(0, vr f), (1, vi p), (2, vr q1), (3, vi s), (4, vi z7)]) (st2 := [vr f]) kX9_score_57 rfl ?_
    refine q_gr eX9_score_60 fl_RX9_29 (Or.inl ⟨_, rfl⟩) C0 rfl ?_
    refine AQ.of (AS.nn_t (tgt := 74) eX9_score_63 (by decide)) ?_
    refine q_blk (lv2 := [(0, vr f), (1, vi p), (2, vr q1), (3, vi s), (4, vi z7)]) (st2 := [vr f]) kX9_score_74 rfl ?_
    refine q_gr eX9_score_75 fl_RX9_29 (Or.inl ⟨_, rfl⟩) C0 rfl ?_
    refine q_blk (lv2 := [(0, vr f), (1, vi p), (2, vr q1), (3, vi s), (4, vi z7)]) (st2 := [vi 5, vr tq]) kX9_score_78 rfl ?_
    obtain ⟨t9, e11t⟩ : ∃ q : Nat, h.2.1 = q := ⟨_, rfl⟩
    refine q_na (k := 102) 5 rfl e11t eX9_score_79 (Or.inr (Or.inr ⟨rfl, rfl⟩)) (am_gw 1587 (by decide +kernel) (by decide +kernel)) (by omega) (by omega) (fun h10 e11c e11f e11z => ?_)
    have k12 := (e11f f (by omega)).trans C0
    have k13 := (e11f sa (by omega)).trans C1
    have k14 := (e11f pa (by omega)).trans C2
    have k15 := (e11f q1 (by omega)).trans c1
    have k16 := (e11f ca1 (by omega)).trans d1
    have e11u : h10.2.1 = t9 + 1 := by rw [e11z]
    have e11v : h10.2.2 = h.2.2 + 5 := by rw [e11z]
    have F17 : ∀ q, q < h.2.1 → ¬ NO q → h10.1 q = h.1 q := fun q q0 q1 => (e11f q (by omega)).trans ((fun _ _ _ => rfl) q q0 q1)
    refine q_blk (lv2 := [(0, vr f), (1, vi p), (2, vr q1), (3, vi s), (4, vi z7)]) (st2 := [vi z7, vi 0, vr t9, vr t9, vr tq]) kX9_score_81 rfl ?_
    refine AQ.of (AS.i2l eX9_score_85 (by first | assumption | exact ⟨by omega, by omega⟩ | exact ⟨by decide, by decide⟩)) ?_
    refine q_ls eX9_score_86 e11c (by omega) (by omega) (fun h18 e19 => ?_)
    have k20 := (am_ne e19 f (by omega)).trans k12
    have k21 := (am_ne e19 sa (by omega)).trans k13
    have k22 := (am_ne e19 pa (by omega)).trans k14
    have k23 := (am_ne e19 q1 (by omega)).trans k15
    have k24 := (am_ne e19 ca1 (by omega)).trans k16
    have k25 := am_at e19
    have e19u : h18.2.1 = h10.2.1 := congrArg Prod.fst (am_z e19)
    have e19v : h18.2.2 = h10.2.2 := congrArg Prod.snd (am_z e19)
    have F26 : ∀ q, q < h.2.1 → ¬ NO q → h18.1 q = h.1 q := fun q q0 q1 => (am_ne e19 q (by omega)).trans (F17 q q0 q1)
    refine q_blk (lv2 := [(0, vr f), (1, vi p), (2, vr q1), (3, vi s), (4, vi z7)]) (st2 := [vi s, vi 1, vr t9, vr t9, vr tq]) kX9_score_87 rfl ?_
    refine AQ.of (AS.i2l eX9_score_90 (by first | assumption | exact ⟨by omega, by omega⟩ | exact ⟨by decide, by decide⟩)) ?_
    refine q_ls eX9_score_91 k25 (by omega) (by omega) (fun h27 e28 => ?_)
    have k29 := (am_ne e28 f (by omega)).trans k20
    have k30 := (am_ne e28 sa (by omega)).trans k21
    have k31 := (am_ne e28 pa (by omega)).trans k22
    have k32 := (am_ne e28 q1 (by omega)).trans k23
    have k33 := (am_ne e28 ca1 (by omega)).trans k24
    have k34 := am_at e28
    have e28u : h27.2.1 = h18.2.1 := congrArg Prod.fst (am_z e28)
    have e28v : h27.2.2 = h18.2.2 := congrArg Prod.snd (am_z e28)
    have F35 : ∀ q, q < h.2.1 → ¬ NO q → h27.1 q = h.1 q := fun q q0 q1 => (am_ne e28 q (by omega)).trans (F26 q q0 q1)
    refine q_blk (lv2 := [(0, vr f), (1, vi p), (2, vr q1), (3, vi s), (4, vi z7)]) (st2 := [vr q1, vi 2, vr t9, vr t9, vr tq]) kX9_score_92 rfl ?_
    refine q_gr eX9_score_95 fl_RX9_37 (Or.inr ⟨_, rfl⟩) k32 rfl ?_
    refine q_al eX9_score_98 k33 (by decide) ?_
    refine AQ.of (AS.i2l eX9_score_99 (by first | assumption | exact ⟨by omega, by omega⟩ | exact ⟨by decide, by decide⟩)) ?_
    refine q_ls eX9_score_100 k34 (by omega) (by omega) (fun h36 e37 => ?_)
    have k38 := (am_ne e37 f (by omega)).trans k29
    have k39 := (am_ne e37 sa (by omega)).trans k30
    have k40 := (am_ne e37 pa (by omega)).trans k31
    have k41 := (am_ne e37 q1 (by omega)).trans k32
    have k42 := (am_ne e37 ca1 (by omega)).trans k33
    have k43 := am_at e37
    have e37u : h36.2.1 = h27.2.1 := congrArg Prod.fst (am_z e37)
    have e37v : h36.2.2 = h27.2.2 := congrArg Prod.snd (am_z e37)
    have F44 : ∀ q, q < h.2.1 → ¬ NO q → h36.1 q = h.1 q := fun q q0 q1 => (am_ne e37 q (by omega)).trans (F35 q q0 q1)
    refine q_blk (lv2 := [(0, vr f), (1, vi p), (2, vr q1), (3, vi s), (4, vi z7)]) (st2 := [vr q1, vi 3, vr t9, vr t9, vr tq]) kX9_score_101 rfl ?_
    refine q_Vi (av := []) (st := [vi 3, vr t9, vr t9, vr tq]) (c_X12_dents (l1.loc (h1 := h36) (fun q b => F44 q (hb q b) id)) vc1 n1 n1') lk_RX9_100 (by decide) rfl rfl (l1.loc (h1 := h36) (fun q b => F44 q (hb q b) id)).ob ⟨_, rfl, rfl⟩ (Nat.le_of_ble_eq_true rfl) eX9_score_104 (fun z45 e46 => ?_)
    subst e46
    refine AQ.of (AS.i2l eX9_score_107 (by first | assumption | exact ⟨by omega, by omega⟩ | exact ⟨by decide, by decide⟩)) ?_
    refine q_ls eX9_score_108 k43 (by omega) (by omega) (fun h47 e48 => ?_)
    have k49 := (am_ne e48 f (by omega)).trans k38
    have k50 := (am_ne e48 sa (by omega)).trans k39
    have k51 := (am_ne e48 pa (by omega)).trans k40
    have k52 := (am_ne e48 q1 (by omega)).trans k41
    have k53 := (am_ne e48 ca1 (by omega)).trans k42
    have k54 := am_at e48
    have e48u : h47.2.1 = h36.2.1 := congrArg Prod.fst (am_z e48)
    have e48v : h47.2.2 = h36.2.2 := congrArg Prod.snd (am_z e48)
    have F55 : ∀ q, q < h.2.1 → ¬ NO q → h47.1 q = h.1 q := fun q q0 q1 => (am_ne e48 q (by omega)).trans (F44 q q0 q1)
    refine q_blk (lv2 := [(0, vr f), (1, vi p), (2, vr q1), (3, vi s), (4, vi z7)]) (st2 := [vr q1, vi 4, vr t9, vr t9, vr tq]) kX9_score_109 rfl ?_
    refine q_Vi (av := []) (st := [vi 4, vr t9, vr t9, vr tq]) (c_X12_inner (l1.loc (h1 := h47) (fun q b => F55 q (hb q b) id)) vc1 n1 n1') lk_RX9_103 (by decide) rfl rfl (l1.loc (h1 := h47) (fun q b => F55 q (hb q b) id)).ob ⟨_, rfl, rfl⟩ (Nat.le_of_ble_eq_true rfl) eX9_score_112 (fun z56 e57 => ?_)
    subst e57
    refine AQ.of (AS.i2l eX9_score_115 (by first | assumption | exact ⟨by omega, by omega⟩ | exact ⟨by decide, by decide⟩)) ?_
    refine q_ls eX9_score_116 k54 (by omega) (by omega) (fun h58 e59 => ?_)
    have k60 := (am_ne e59 f (by omega)).trans k49
    have k61 := (am_ne e59 sa (by omega)).trans k50
    have k62 := (am_ne e59 pa (by omega)).trans k51
    have k63 := (am_ne e59 q1 (by omega)).trans k52
    have k64 := (am_ne e59 ca1 (by omega)).trans k53
    have k65 := am_at e59
    have e59u : h58.2.1 = h47.2.1 := congrArg Prod.fst (am_z e59)
    have e59v : h58.2.2 = h47.2.2 := congrArg Prod.snd (am_z e59)
    have F66 : ∀ q, q < h.2.1 → ¬ NO q → h58.1 q = h.1 q := fun q q0 q1 => (am_ne e59 q (by omega)).trans (F55 q q0 q1)
    refine q_Vl (av := [vr t9]) (st := []) (c_X10_value (fg := gm_fg D cm p) k65 (fun i i0 i1 => ⟨by
        rcases (show i = 0 ∨ i = 1 ∨ i = 2 ∨ i = 3 ∨ i = 4 by omega) with rfl | rfl | rfl | rfl | rfl
        · exact ea
        · exact hs2
        · exact rfl
        · exact rfl
        · exact gm_lin_i hX p0 p1 hcl, gm_fg_r hD p0 p1 i⟩) (hN.mv (h1 := h58) (B1 := Bn) (fun q b => F66 q (hbn q b) id) (fun q b => b))) lk_RX9_106 (by omega) rfl rfl (hN.mv (h1 := h58) (B1 := Bn) (fun q b => F66 q (hbn q b) id) (fun q b => b)).b.2 ⟨_, rfl, rfl⟩ (Nat.le_of_ble_eq_true rfl) eX9_score_117 (fun z67 e68 => ?_)
    have z67r := e68.1
    unfold gm_lt at z67r
    refine q_blk (lv2 := [(0, vr f), (1, vi p), (2, vr q1), (3, vi s), (4, vi z7), (5, vl z67)]) (st2 := []) kX9_score_120 rfl ?_
    refine AQ.of (AS.ldc2 (z := (-99999)) eX9_score_122 (am_gw 1567 (by decide +kernel) (by decide +kernel))) ?_
    refine AQ.of (AS.ldc2 (z := 99999) eX9_score_125 (am_gw 1568 (by decide +kernel) (by decide +kernel))) ?_
    refine q_blk (lv2 := [(0, vr f), (1, vi p), (2, vr q1), (3, vi s), (4, vi z7), (5, vl z67)]) (st2 := [vl z67, vl 99999, vl (-99999)]) kX9_score_128 rfl ?_
    refine AQ.of (AS.mminL eX9_score_130 ⟨by decide, by decide⟩ (by first | assumption | exact ⟨by omega, by omega⟩ | exact ⟨by decide, by decide⟩) (am_gw 1569 (by decide +kernel) (by decide +kernel)) (am_gw 434 (by decide +kernel) (by decide +kernel)) (am_gw 53 (by decide +kernel) (by decide +kernel)) (am_gw 435 (by decide +kernel) (by decide +kernel)) (by decide) (Nat.le_of_ble_eq_true rfl)) ?_
    obtain ⟨z69, e70⟩ : ∃ q : Int, q = (if z67 < 99999 then z67 else 99999) := ⟨_, rfl⟩
    rw [← e70]
    refine AQ.of (AS.mmaxL eX9_score_133 ⟨by decide, by decide⟩ (by first | assumption | exact ⟨by omega, by omega⟩ | exact ⟨by decide, by decide⟩) (am_gw 1570 (by decide +kernel) (by decide +kernel)) (am_gw 437 (by decide +kernel) (by decide +kernel)) (am_gw 53 (by decide +kernel) (by decide +kernel)) (am_gw 438 (by decide +kernel) (by decide +kernel)) (by decide) (Nat.le_of_ble_eq_true rfl)) ?_
    obtain ⟨z71, e72⟩ : ∃ q : Int, q = (if z69 < (-99999) then (-99999) else z69) := ⟨_, rfl⟩
    rw [← e72]
    refine AQ.of (AS.l2i eX9_score_136) ?_
    exact q_ri rfl eX9_score_137 ⟨z71, rfl, (gm_sc_t e68 (by unfold gm_li; split <;> (try split) <;> omega)), ⟨F66, ⟨by omega, by omega⟩, by omega, by omega⟩⟩
  · skip
    refine q_blk (lv2 := [(0, vr f), (1, vi p), (2, vr q1), (3, vi s), (4, vi k)]) (st2 := [vi k, vr f]) kX9_score_22 rfl ?_
    refine q_Vi (av := [vi k]) (st := []) (c_X9_claimer hF hD hU (k := k) (by omega) (by omega)) lk_RX9_97 (by decide) rfl rfl hF.ob ⟨_, rfl, rfl⟩ (Nat.le_of_ble_eq_true rfl) eX9_score_25 (fun z73 e74 => ?_)
    subst e74
    have ck := hcr k k0 (by omega)
    refine q_blk (lv2 := [(0, vr f), (1, vi p), (2, vr q1), (3, vi s), (4, vi k)]) (st2 := [vi p, vi (cm k)]) kX9_score_28 rfl ?_
    refine AQ.ic_ne (tgt := 44) eX9_score_29 (by decide) (by first | assumption | exact ⟨by omega, by omega⟩ | exact ⟨by decide, by decide⟩) (by first | assumption | exact ⟨by omega, by omega⟩ | exact ⟨by decide, by decide⟩) (fun br75 => ?_) (fun br75 => ?_)
    · skip
      refine q_blk (lv2 := [(0, vr f), (1, vi p), (2, vr q1), (3, vi s), (4, vi (k + 1))]) (st2 := []) kX9_score_44 rfl ?_
      refine q_goto (tgt := 12) eX9_score_47 (by decide) ?_
      exact ih2 s (k + 1) (⟨⟨by omega, by omega⟩, by rw [gm_sm_s _ k0, ← hs]; unfold gm_if; split <;> omega⟩) (by omega)
    · skip
      refine q_blk (lv2 := [(0, vr f), (1, vi p), (2, vr q1), (3, vi s), (4, vi k)]) (st2 := [vr f, vi s]) kX9_score_32 rfl ?_
      refine q_gr eX9_score_34 fl_RX9_18 (Or.inr ⟨_, rfl⟩) C0 rfl ?_
      refine q_blk (lv2 := [(0, vr f), (1, vi p), (2, vr q1), (3, vi s), (4, vi k)]) (st2 := [vi k, vr sa, vi s]) kX9_score_37 rfl ?_
      obtain ⟨q76, f76, g76, w76, c76, x76, y76, v76⟩ := hst k (by omega) (by omega)
      have b76 := hD.2.2.2.2.1 k (by omega) (by omega)
      refine q_aa eX9_score_39 C1 (by decide) (by omega) (by omega) g76 ?_
      refine q_blk (lv2 := [(0, vr f), (1, vi p), (2, vr q1), (3, vi s), (4, vi k)]) (st2 := [vi 2, vr q76, vi s]) kX9_score_40 rfl ?_
      refine q_ia eX9_score_41 c76 (by decide) (by omega) (by omega) (z := (sV D k)) v76 ?_
      refine q_blk (lv2 := [(0, vr f), (1, vi p), (2, vr q1), (3, vi (s + (sV D k))), (4, vi k)]) (st2 := []) kX9_score_42 rfl ?_
      refine q_blk (lv2 := [(0, vr f), (1, vi p), (2, vr q1), (3, vi (s + (sV D k))), (4, vi (k + 1))]) (st2 := []) kX9_score_44 rfl ?_
      refine q_goto (tgt := 12) eX9_score_47 (by decide) ?_
      exact ih2 (s + (sV D k)) (k + 1) (⟨⟨by omega, by omega⟩, by rw [gm_sm_s _ k0, ← hs]; unfold gm_if; split <;> omega⟩) (by omega)

theorem c_X9_score {w : am_w} {h : AH} {B : Nat → Prop} {f sa pa : Nat} {gs gp : Int → Option Nat} {T : Option Nat} {D : Int → Int} (hF : FLD h B f sa pa gs gp T D) (hX : FX D) {cm : Int → Int} (hU : UQ D cm) (hcr : ∀ k, 0 ≤ k → k < D 2 → -1 ≤ cm k ∧ cm k < 6) (hb : ∀ q, B q → q < h.2.1) {p : Int} (p0 : 0 ≤ p) (p1 : p < D 3) (hcl : pC D p = 1) {Bn : Nat → Prop} {L : GL} (hT : TRM h Bn T L) (hbn : ∀ q, Bn q → q < h.2.1) : AE w m_X9_score 70 [vr f, vi p] h (am_int (fun z h1 => z = gm_sc D cm L p ∧ KF h h1 NO 1 5)) := by
  rcases hT with ⟨rfl, rfl⟩ | ⟨q, X, d, rfl, k, n⟩
  · exact c_X9_scoreN hF hX hU hcr hb p0 p1 hcl
  · exact c_X9_scoreS hF hX hU hcr hb p0 p1 hcl n k hbn

set_option maxRecDepth 4000 in
set_option maxHeartbeats 4000000 in
theorem c_X9_points {w : am_w} {h : AH} {B : Nat → Prop} {f sa pa : Nat} {gs gp : Int → Option Nat} {T : Option Nat} {D : Int → Int} (hF : FLD h B f sa pa gs gp T D) (hX : FX D) {cm : Int → Int} (hU : UQ D cm) (hcr : ∀ k, 0 ≤ k → k < D 2 → -1 ≤ cm k ∧ cm k < 6) (hb : ∀ q, B q → q < h.2.1) {Bn : Nat → Prop} {L : GL} (hT : TRM h Bn T L) (hbn : ∀ q, Bn q → q < h.2.1) {pl : Int} (l0 : 0 ≤ pl ∧ pl ≤ 3)  : AE w m_X9_points 72 [vr f, vi pl] h (am_int (fun z h1 => z = gm_pt D cm L pl ∧ KF h h1 NO 6 30)) := by
  refine AE.of wf_X9_points (Nat.le_of_ble_eq_true rfl) (am_ok_i) ?_
  have hD := hX.1
  obtain ⟨⟨bf, bs, bp⟩, C0, ⟨fz1, C1⟩, ⟨fz2, C2⟩, hst, hsh, hij⟩ := id hF
  have d0 := hD.1
  have d1 := hD.2.1
  have d2 := hD.2.2.1
  have d3 := hD.2.2.2.1
  have hf := hb _ bf
  have hsa := hb _ bs
  have hpa := hb _ bp
  refine q_blk (lv2 := [(0, vr f), (1, vi pl), (2, vi 0), (3, vi 0)]) (st2 := []) kX9_points_0 rfl ?_
  refine am_lp3 (I := fun (s : Int) (p : Int) (hh : AH) => (0 ≤ p ∧ p ≤ D 3) ∧ s = gm_sm (gm_pp D cm L pl) p.toNat ∧ KF h hh NO p.toNat (5 * p.toNat)) (μ := fun (s : Int) (p : Int) (hh : AH) => (D 3 - p).toNat) (G := fun (s : Int) (p : Int) (hh : AH) => AQ w m_X9_points 72 4 [(0, vr f), (1, vi pl), (2, vi s), (3, vi p)] [] hh (am_int (fun z h1 => z = gm_pt D cm L pl ∧ KF h h1 NO 6 30))) ?_ 0 0 h (⟨⟨by omega, by omega⟩, rfl, KF.rf⟩)
  intro s p hh hI2 ih1
  obtain ⟨⟨p0, p1⟩, hs, kfF, ⟨kfa, kfb⟩, kfc, kfd⟩ := hI2
  have hF := hF.loc (h1 := hh) (B1 := B) (fun q b => kfF q (hb q b) id) (fun q b => b)
  have hT := hT.mv (h1 := hh) (B1 := Bn) (fun q b => kfF q (hbn q b) id) (fun q b => b)
  have hb2 : ∀ q, B q → q < hh.2.1 := fun q b => by have := hb q b; omega
  have hbn2 : ∀ q, Bn q → q < hh.2.1 := fun q b => by have := hbn q b; omega
  obtain ⟨⟨bf, bs, bp⟩, C0, ⟨fz1, C1⟩, ⟨fz2, C2⟩, hst, hsh, hij⟩ := id hF
  refine q_blk (lv2 := [(0, vr f), (1, vi pl), (2, vi s), (3, vi p)]) (st2 := [vr f, vi p]) kX9_points_4 rfl ?_
  refine q_gr eX9_points_6 fl_RX9_24 (Or.inr ⟨_, rfl⟩) C0 rfl ?_
  refine q_al eX9_points_9 C2 (by decide) ?_
  refine AQ.ic_ge (tgt := 52) eX9_points_10 (by decide) (by first | assumption | exact ⟨by omega, by omega⟩ | exact ⟨by decide, by decide⟩) (by first | assumption | exact ⟨by omega, by omega⟩ | exact ⟨by decide, by decide⟩) (fun br3 => ?_) (fun br3 => ?_)
  · skip
    refine q_blk (lv2 := [(0, vr f), (1, vi pl), (2, vi s), (3, vi p)]) (st2 := [vi s]) kX9_points_52 rfl ?_
    exact q_ri rfl eX9_points_53 ⟨s, rfl, (by rw [hs, show p = D 3 by omega]; rfl), ⟨kfF, ⟨by omega, by omega⟩, by omega, by omega⟩⟩
  · skip
    refine q_blk (lv2 := [(0, vr f), (1, vi pl), (2, vi s), (3, vi p)]) (st2 := [vr f]) kX9_points_13 rfl ?_
    refine q_gr eX9_points_14 fl_RX9_24 (Or.inr ⟨_, rfl⟩) C0 rfl ?_
    refine q_blk (lv2 := [(0, vr f), (1, vi pl), (2, vi s), (3, vi p)]) (st2 := [vi p, vr pa]) kX9_points_17 rfl ?_
    obtain ⟨q4, g4, l4⟩ := hsh p (by omega) (by omega)
    obtain ⟨ca4, cf4, ⟨w4, u4⟩, c4, d4, e4⟩ := id l4
    obtain ⟨⟨o4, o4'⟩, ⟨n4, n4'⟩, cc4, xy4⟩ := hD.2.2.2.2.2 p (by omega) (by omega)
    have vc4 := hD.vc (p := p) (by omega) (by omega)
    have ar4 := gm_ar_r vc4 (by omega) n4'
    have bq4 := hb _ w4
    have bc4 := hb _ u4
    refine q_aa eX9_points_18 C2 (by decide) (by omega) (by omega) g4 ?_
    refine q_gi eX9_points_19 fl_RX9_76 (Or.inr rfl) c4 (z := (pC D p)) rfl ?_
    refine AQ.if_eq (tgt := 46) eX9_points_22 (by decide) (by first | assumption | exact ⟨by omega, by omega⟩ | exact ⟨by decide, by decide⟩) (fun br5 => ?_) (fun br5 => ?_)
    · skip
      refine q_blk (lv2 := [(0, vr f), (1, vi pl), (2, vi s), (3, vi (p + 1))]) (st2 := []) kX9_points_46 rfl ?_
      refine q_goto (tgt := 4) eX9_points_49 (by decide) ?_
      exact ih1 s (p + 1) hh (⟨⟨by omega, by omega⟩, by rw [gm_sm_s _ p0, ← hs]; unfold gm_pp; split <;> omega, ⟨kfF, ⟨by omega, by omega⟩, by omega, by omega⟩⟩) (by omega)
    · skip
      refine q_blk (lv2 := [(0, vr f), (1, vi pl), (2, vi s), (3, vi p)]) (st2 := [vr f]) kX9_points_25 rfl ?_
      refine q_gr eX9_points_26 fl_RX9_24 (Or.inr ⟨_, rfl⟩) C0 rfl ?_
      refine q_blk (lv2 := [(0, vr f), (1, vi pl), (2, vi s), (3, vi p)]) (st2 := [vi p, vr pa]) kX9_points_29 rfl ?_
      refine q_aa eX9_points_30 C2 (by decide) (by omega) (by omega) g4 ?_
      refine q_gi eX9_points_31 fl_RX9_121 (Or.inl rfl) c4 (z := (pO D p)) rfl ?_
      refine q_blk (lv2 := [(0, vr f), (1, vi pl), (2, vi s), (3, vi p)]) (st2 := [vi pl, vi (pO D p)]) kX9_points_34 rfl ?_
      refine AQ.ic_ne (tgt := 46) eX9_points_35 (by decide) (by first | assumption | exact ⟨by omega, by omega⟩ | exact ⟨by decide, by decide⟩) (by first | assumption | exact ⟨by omega, by omega⟩ | exact ⟨by decide, by decide⟩) (fun br6 => ?_) (fun br6 => ?_)
      · skip
        refine q_blk (lv2 := [(0, vr f), (1, vi pl), (2, vi s), (3, vi (p + 1))]) (st2 := []) kX9_points_46 rfl ?_
        refine q_goto (tgt := 4) eX9_points_49 (by decide) ?_
        exact ih1 s (p + 1) hh (⟨⟨by omega, by omega⟩, by rw [gm_sm_s _ p0, ← hs]; unfold gm_pp; split <;> omega, ⟨kfF, ⟨by omega, by omega⟩, by omega, by omega⟩⟩) (by omega)
      · skip
        refine q_blk (lv2 := [(0, vr f), (1, vi pl), (2, vi s), (3, vi p)]) (st2 := [vi p, vr f, vi s]) kX9_points_38 rfl ?_
        refine AQ.callVi (av := [vi p]) (st := [vi s]) (c_X9_score hF hX hU hcr hb2 (p := p) (by omega) (by omega) (by omega) hT hbn2) lk_RX9_124 (by decide) rfl rfl hF.ob ⟨_, rfl, rfl⟩ (Nat.le_of_ble_eq_true rfl) eX9_points_41 (fun z7 h9 e8 => ?_)
        obtain ⟨z7e, g10f, ⟨g10a, g10b⟩, g10c, g10d⟩ := e8
        have k11 := (g10f f (by omega) (fun x => x)).trans C0
        have k12 := (g10f sa (by omega) (fun x => x)).trans C1
        have k13 := (g10f pa (by omega) (fun x => x)).trans C2
        have k14 := (g10f q4 (by omega) (fun x => x)).trans c4
        have k15 := (g10f ca4 (by omega) (fun x => x)).trans d4
        have F16 : ∀ q, q < h.2.1 → ¬ NO q → h9.1 q = h.1 q := fun q q0 q1 => (g10f q (by omega) (fun x => x)).trans (kfF q q0 q1)
        refine q_blk (lv2 := [(0, vr f), (1, vi pl), (2, vi (s + z7)), (3, vi p)]) (st2 := []) kX9_points_44 rfl ?_
        refine q_blk (lv2 := [(0, vr f), (1, vi pl), (2, vi (s + z7)), (3, vi (p + 1))]) (st2 := []) kX9_points_46 rfl ?_
        refine q_goto (tgt := 4) eX9_points_49 (by decide) ?_
        exact ih1 (s + z7) (p + 1) h9 (⟨⟨by omega, by omega⟩, by rw [gm_sm_s _ p0, ← hs]; unfold gm_pp; split <;> omega, ⟨F16, ⟨by omega, by omega⟩, by omega, by omega⟩⟩) (by omega)

set_option maxRecDepth 4000 in
set_option maxHeartbeats 4000000 in
theorem c_X9_sum {w : am_w} {h : AH} {B : Nat → Prop} {f sa pa : Nat} {gs gp : Int → Option Nat} {T : Option Nat} {D : Int → Int} (hF : FLD h B f sa pa gs gp T D) (hX : FX D) {cm : Int → Int} (hU : UQ D cm) (hcr : ∀ k, 0 ≤ k → k < D 2 → -1 ≤ cm k ∧ cm k < 6) (hb : ∀ q, B q → q < h.2.1) {Bn : Nat → Prop} {L : GL} (hT : TRM h Bn T L) (hbn : ∀ q, Bn q → q < h.2.1)  : AE w m_X9_sum 74 [vr f] h (am_lng (fun z h1 => z = gm_k3 (gm_pt D cm L) 4 (gm_k3 cm (D 2).toNat (gm_k1 D (D 3).toNat)) ∧ KF h h1 NO 24 120)) := by
  refine AE.of wf_X9_sum (Nat.le_of_ble_eq_true rfl) (am_ok_l) ?_
  have hD := hX.1
  obtain ⟨⟨bf, bs, bp⟩, C0, ⟨fz1, C1⟩, ⟨fz2, C2⟩, hst, hsh, hij⟩ := id hF
  have d0 := hD.1
  have d1 := hD.2.1
  have d2 := hD.2.2.1
  have d3 := hD.2.2.2.1
  have hf := hb _ bf
  have hsa := hb _ bs
  have hpa := hb _ bp
  refine q_blk (lv2 := [(0, vr f), (1, vl 0)]) (st2 := [vr f]) kX9_sum_0 rfl ?_
  refine q_gr eX9_sum_3 fl_RX9_24 (Or.inr ⟨_, rfl⟩) C0 rfl ?_
  refine q_blk (lv2 := [(0, vr f), (1, vl 0), (3, vr pa)]) (st2 := [vr pa]) kX9_sum_6 rfl ?_
  refine q_al eX9_sum_8 C2 (by decide) ?_
  refine q_blk (lv2 := [(0, vr f), (1, vl 0), (3, vr pa), (4, vi (D 3)), (5, vi 0)]) (st2 := []) kX9_sum_9 rfl ?_
  refine am_lp2 (I := fun (v : Int) (i : Int) => (0 ≤ i ∧ i ≤ D 3) ∧ v = gm_k1 D i.toNat) (μ := fun (v : Int) (i : Int) => (D 3 - i).toNat) (G := fun (v : Int) (i : Int) => AQ w m_X9_sum 74 14 [(0, vr f), (1, vl v), (3, vr pa), (4, vi (D 3)), (5, vi i)] [] h (am_lng (fun z h1 => z = gm_k3 (gm_pt D cm L) 4 (gm_k3 cm (D 2).toNat (gm_k1 D (D 3).toNat)) ∧ KF h h1 NO 24 120))) ?_ 0 0 (⟨⟨by omega, by omega⟩, rfl⟩)
  intro v i hI2 ih1
  obtain ⟨⟨i0, i1⟩, hv⟩ := hI2
  refine q_blk (lv2 := [(0, vr f), (1, vl v), (3, vr pa), (4, vi (D 3)), (5, vi i)]) (st2 := [vi (D 3), vi i]) kX9_sum_14 rfl ?_
  refine AQ.ic_ge (tgt := 110) eX9_sum_18 (by decide) (by first | assumption | exact ⟨by omega, by omega⟩ | exact ⟨by decide, by decide⟩) (by first | assumption | exact ⟨by omega, by omega⟩ | exact ⟨by decide, by decide⟩) (fun br3 => ?_) (fun br3 => ?_)
  · skip
    refine q_blk (lv2 := [(0, vr f), (1, vl v), (3, vi 0), (4, vi (D 3)), (5, vi i)]) (st2 := []) kX9_sum_110 rfl ?_
    refine q_sub (lv2 := [(0, vr f), (1, vl v), (3, vi 0)]) [0, 1, 2] rfl ?_
    refine am_lp2 (I := fun (v3 : Int) (j : Int) => (0 ≤ j ∧ j ≤ D 2) ∧ v3 = gm_k3 cm j.toNat (gm_k1 D (D 3).toNat)) (μ := fun (v3 : Int) (j : Int) => (D 2 - j).toNat) (G := fun (v3 : Int) (j : Int) => AQ w m_X9_sum 74 112 [(0, vr f), (1, vl v3), (3, vi j)] [] h (am_lng (fun z h1 => z = gm_k3 (gm_pt D cm L) 4 (gm_k3 cm (D 2).toNat (gm_k1 D (D 3).toNat)) ∧ KF h h1 NO 24 120))) ?_ v 0 (⟨⟨by omega, by omega⟩, by rw [hv, show i = D 3 by omega]; rfl⟩)
    intro v3 j hI5 ih4
    obtain ⟨⟨j0, j1⟩, hv3⟩ := hI5
    refine q_blk (lv2 := [(0, vr f), (1, vl v3), (3, vi j)]) (st2 := [vr f, vi j]) kX9_sum_112 rfl ?_
    refine q_gr eX9_sum_114 fl_RX9_18 (Or.inr ⟨_, rfl⟩) C0 rfl ?_
    refine q_al eX9_sum_117 C1 (by decide) ?_
    refine AQ.ic_ge (tgt := 140) eX9_sum_118 (by decide) (by first | assumption | exact ⟨by omega, by omega⟩ | exact ⟨by decide, by decide⟩) (by first | assumption | exact ⟨by omega, by omega⟩ | exact ⟨by decide, by decide⟩) (fun br6 => ?_) (fun br6 => ?_)
    · skip
      refine q_blk (lv2 := [(0, vr f), (1, vl v3), (3, vi 0)]) (st2 := []) kX9_sum_140 rfl ?_
      refine am_lp3 (I := fun (v4 : Int) (pl : Int) (hh : AH) => (0 ≤ pl ∧ pl ≤ 4) ∧ v4 = gm_k3 (gm_pt D cm L) pl.toNat (gm_k3 cm (D 2).toNat (gm_k1 D (D 3).toNat)) ∧ KF h hh NO (6 * pl.toNat) (30 * pl.toNat)) (μ := fun (v4 : Int) (pl : Int) (hh : AH) => (4 - pl).toNat) (G := fun (v4 : Int) (pl : Int) (hh : AH) => AQ w m_X9_sum 74 142 [(0, vr f), (1, vl v4), (3, vi pl)] [] hh (am_lng (fun z h1 => z = gm_k3 (gm_pt D cm L) 4 (gm_k3 cm (D 2).toNat (gm_k1 D (D 3).toNat)) ∧ KF h h1 NO 24 120))) ?_ v3 0 h (⟨⟨by omega, by omega⟩, by rw [hv3, show j = D 2 by omega]; rfl, KF.rf⟩)
      intro v4 pl hh hI8 ih7
      obtain ⟨⟨l0, l1⟩, hv4, kfF, ⟨kfa, kfb⟩, kfc, kfd⟩ := hI8
      have hF := hF.loc (h1 := hh) (B1 := B) (fun q b => kfF q (hb q b) id) (fun q b => b)
      have hT := hT.mv (h1 := hh) (B1 := Bn) (fun q b => kfF q (hbn q b) id) (fun q b => b)
      have hb2 : ∀ q, B q → q < hh.2.1 := fun q b => by have := hb q b; omega
      have hbn2 : ∀ q, Bn q → q < hh.2.1 := fun q b => by have := hbn q b; omega
      obtain ⟨⟨bf, bs, bp⟩, C0, ⟨fz1, C1⟩, ⟨fz2, C2⟩, hst, hsh, hij⟩ := id hF
      refine q_blk (lv2 := [(0, vr f), (1, vl v4), (3, vi pl)]) (st2 := [vi 4, vi pl]) kX9_sum_142 rfl ?_
      refine AQ.ic_ge (tgt := 166) eX9_sum_144 (by decide) (by first | assumption | exact ⟨by omega, by omega⟩ | exact ⟨by decide, by decide⟩) ⟨by decide, by decide⟩ (fun br9 => ?_) (fun br9 => ?_)
      · skip
        refine q_blk (lv2 := [(0, vr f), (1, vl v4), (3, vi pl)]) (st2 := [vl v4]) kX9_sum_166 rfl ?_
        exact q_rl rfl eX9_sum_167 ⟨v4, rfl, (by rw [hv4, show pl = 4 by omega]; rfl), ⟨kfF, ⟨by omega, by omega⟩, by omega, by omega⟩⟩
      · skip
        refine AQ.of (AS.ldc2 (z := 31) eX9_sum_147 (am_gw 1534 (by decide +kernel) (by decide +kernel))) ?_
        refine q_blk (lv2 := [(0, vr f), (1, vl v4), (3, vi pl)]) (st2 := [vi pl, vr f, vl (31 * v4)]) kX9_sum_150 rfl ?_
        refine AQ.callVi (av := [vi pl]) (st := [vl (31 * v4)]) (c_X9_points hF hX hU hcr hb2 hT hbn2 (pl := pl) ⟨by omega, by omega⟩) lk_RX9_130 (by decide) rfl rfl hF.ob ⟨_, rfl, rfl⟩ (Nat.le_of_ble_eq_true rfl) eX9_sum_154 (fun z10 h12 e11 => ?_)
        obtain ⟨z10e, g13f, ⟨g13a, g13b⟩, g13c, g13d⟩ := e11
        have k14 := (g13f f (by omega) (fun x => x)).trans C0
        have k15 := (g13f sa (by omega) (fun x => x)).trans C1
        have k16 := (g13f pa (by omega) (fun x => x)).trans C2
        have F17 : ∀ q, q < h.2.1 → ¬ NO q → h12.1 q = h.1 q := fun q q0 q1 => (g13f q (by omega) (fun x => x)).trans (kfF q q0 q1)
        have z10r := gm_pt_r (cm := cm) (L := L) hD pl
        refine AQ.of (AS.i2l eX9_sum_157 (by first | assumption | exact ⟨by omega, by omega⟩ | exact ⟨by decide, by decide⟩)) ?_
        refine q_blk (lv2 := [(0, vr f), (1, vl ((31 * v4) + z10)), (3, vi (pl + 1))]) (st2 := []) kX9_sum_158 rfl ?_
        refine q_goto (tgt := 142) eX9_sum_163 (by decide) ?_
        exact ih7 ((31 * v4) + z10) (pl + 1) h12 (⟨⟨by omega, by omega⟩, by rw [gm_k3_s l0, ← hv4]; omega, ⟨F17, ⟨by omega, by omega⟩, by omega, by omega⟩⟩) (by omega)
    · skip
      refine AQ.of (AS.ldc2 (z := 31) eX9_sum_121 (am_gw 1534 (by decide +kernel) (by decide +kernel))) ?_
      refine q_blk (lv2 := [(0, vr f), (1, vl v3), (3, vi j)]) (st2 := [vi j, vr f, vl (31 * v3)]) kX9_sum_124 rfl ?_
      refine q_Vi (av := [vi j]) (st := [vl (31 * v3)]) (c_X9_claimer hF hD hU (k := j) (by omega) (by omega)) lk_RX9_97 (by decide) rfl rfl hF.ob ⟨_, rfl, rfl⟩ (Nat.le_of_ble_eq_true rfl) eX9_sum_128 (fun z18 e19 => ?_)
      subst e19
      have cj := hcr j j0 (by omega)
      refine AQ.of (AS.i2l eX9_sum_131 (by first | assumption | exact ⟨by omega, by omega⟩ | exact ⟨by decide, by decide⟩)) ?_
      refine q_blk (lv2 := [(0, vr f), (1, vl ((31 * v3) + (cm j))), (3, vi (j + 1))]) (st2 := []) kX9_sum_132 rfl ?_
      refine q_goto (tgt := 112) eX9_sum_137 (by decide) ?_
      exact ih4 ((31 * v3) + (cm j)) (j + 1) (⟨⟨by omega, by omega⟩, by rw [gm_k3_s j0, ← hv3]⟩) (by omega)
  · skip
    refine q_blk (lv2 := [(0, vr f), (1, vl v), (3, vr pa), (4, vi (D 3)), (5, vi i)]) (st2 := [vi i, vr pa]) kX9_sum_21 rfl ?_
    obtain ⟨q20, g20, l20⟩ := hsh i (by omega) (by omega)
    obtain ⟨ca20, cf20, ⟨w20, u20⟩, c20, d20, e20⟩ := id l20
    obtain ⟨⟨o20, o20'⟩, ⟨n20, n20'⟩, cc20, xy20⟩ := hD.2.2.2.2.2 i (by omega) (by omega)
    have vc20 := hD.vc (p := i) (by omega) (by omega)
    have ar20 := gm_ar_r vc20 (by omega) n20'
    have bq20 := hb _ w20
    have bc20 := hb _ u20
    refine q_aa eX9_sum_24 C2 (by decide) (by omega) (by omega) g20 ?_
    refine q_blk (lv2 := [(0, vr f), (1, vl v), (3, vr pa), (4, vi (D 3)), (5, vi i), (6, vr q20)]) (st2 := []) kX9_sum_25 rfl ?_
    refine AQ.of (AS.ldc2 (z := 31) eX9_sum_27 (am_gw 1534 (by decide +kernel) (by decide +kernel))) ?_
    refine AQ.of (AS.ldc2 (z := 31) eX9_sum_30 (am_gw 1534 (by decide +kernel) (by decide +kernel))) ?_
    refine q_blk (lv2 := [(0, vr f), (1, vl v), (3, vr pa), (4, vi (D 3)), (5, vi i), (6, vr q20)]) (st2 := [vr q20, vl (31 * v), vl 31]) kX9_sum_33 rfl ?_
    refine q_gi eX9_sum_37 fl_RX9_121 (Or.inl rfl) c20 (z := (pO D i)) rfl ?_
    refine AQ.of (AS.i2l eX9_sum_40 (by first | assumption | exact ⟨by omega, by omega⟩ | exact ⟨by decide, by decide⟩)) ?_
    refine q_blk (lv2 := [(0, vr f), (1, vl v), (3, vr pa), (4, vi (D 3)), (5, vi i), (6, vr q20)]) (st2 := [vr q20, vl (31 * ((31 * v) + (pO D i)))]) kX9_sum_41 rfl ?_
    refine q_gi eX9_sum_45 fl_RX9_76 (Or.inr rfl) c20 (z := (pC D i)) rfl ?_
    refine AQ.if_eq (tgt := 55) eX9_sum_48 (by decide) (by first | assumption | exact ⟨by omega, by omega⟩ | exact ⟨by decide, by decide⟩) (fun br21 => ?_) (fun br21 => ?_)
    · skip
      refine q_blk (lv2 := [(0, vr f), (1, vl v), (3, vr pa), (4, vi (D 3)), (5, vi i), (6, vr q20)]) (st2 := [vi 0, vl (31 * ((31 * v) + (pO D i)))]) kX9_sum_55 rfl ?_
      refine AQ.of (AS.i2l eX9_sum_56 ⟨by decide, by decide⟩) ?_
      refine q_blk (lv2 := [(0, vr f), (1, vl ((31 * ((31 * v) + (pO D i))) + 0)), (3, vr pa), (4, vi (D 3)), (5, vi i), (6, vr q20)]) (st2 := [vr q20]) kX9_sum_57 rfl ?_
      refine q_gr eX9_sum_61 fl_RX9_37 (Or.inr ⟨_, rfl⟩) c20 rfl ?_
      refine q_blk (lv2 := [(0, vr f), (1, vl ((31 * ((31 * v) + (pO D i))) + 0)), (3, vr pa), (4, vi (D 3)), (5, vi i), (6, vr q20), (7, vr ca20)]) (st2 := [vr ca20]) kX9_sum_64 rfl ?_
      refine q_al eX9_sum_68 d20 (by decide) ?_
      refine q_blk (lv2 := [(0, vr f), (1, vl ((31 * ((31 * v) + (pO D i))) + 0)), (3, vr pa), (4, vi (D 3)), (5, vi i), (6, vr q20), (7, vr ca20), (8, vi (pN D i)), (9, vi 0)]) (st2 := []) kX9_sum_69 rfl ?_
      refine am_lp2 (I := fun (v2 : Int) (k : Int) => (0 ≤ k ∧ k ≤ pN D i) ∧ v2 = gm_k2 D i k.toNat (31 * (31 * gm_k1 D i.toNat + pO D i) + pC D i)) (μ := fun (v2 : Int) (k : Int) => (pN D i - k).toNat) (G := fun (v2 : Int) (k : Int) => AQ w m_X9_sum 74 74 [(0, vr f), (1, vl v2), (3, vr pa), (4, vi (D 3)), (5, vi i), (6, vr q20), (7, vr ca20), (8, vi (pN D i)), (9, vi k)] [] h (am_lng (fun z h1 => z = gm_k3 (gm_pt D cm L) 4 (gm_k3 cm (D 2).toNat (gm_k1 D (D 3).toNat)) ∧ KF h h1 NO 24 120))) ?_ ((31 * ((31 * v) + (pO D i))) + 0) 0 (⟨⟨by omega, by omega⟩, by rw [← hv]; show _ = 31 * (31 * v + pO D i) + pC D i; omega⟩)
      intro v2 k hI23 ih22
      obtain ⟨⟨k0, k1⟩, hv2⟩ := hI23
      refine q_blk (lv2 := [(0, vr f), (1, vl v2), (3, vr pa), (4, vi (D 3)), (5, vi i), (6, vr q20), (7, vr ca20), (8, vi (pN D i)), (9, vi k)]) (st2 := [vi (pN D i), vi k]) kX9_sum_74 rfl ?_
      refine AQ.ic_ge (tgt := 104) eX9_sum_78 (by decide) (by first | assumption | exact ⟨by omega, by omega⟩ | exact ⟨by decide, by decide⟩) (by first | assumption | exact ⟨by omega, by omega⟩ | exact ⟨by decide, by decide⟩) (fun br24 => ?_) (fun br24 => ?_)
      · skip
        refine q_blk (lv2 := [(0, vr f), (1, vl v2), (3, vr pa), (4, vi (D 3)), (5, vi (i + 1)), (6, vr q20), (7, vr ca20), (8, vi (pN D i)), (9, vi k)]) (st2 := []) kX9_sum_104 rfl ?_
        refine q_goto (tgt := 14) eX9_sum_107 (by decide) ?_
        refine q_sub (lv2 := [(0, vr f), (1, vl v2), (3, vr pa), (4, vi (D 3)), (5, vi (i + 1))]) [0, 1, 2, 3, 4] rfl ?_
        exact ih1 v2 (i + 1) (⟨⟨by omega, by omega⟩, by rw [gm_k1_s i0, hv2, show k = pN D i by omega]⟩) (by omega)
      · skip
        refine q_blk (lv2 := [(0, vr f), (1, vl v2), (3, vr pa), (4, vi (D 3)), (5, vi i), (6, vr q20), (7, vr ca20), (8, vi (pN D i)), (9, vi k)]) (st2 := [vi k, vr ca20]) kX9_sum_81 rfl ?_
        refine q_ia eX9_sum_85 d20 (by decide) (by omega) (by omega) (z := (100 * pX D i k + pY D i k)) (e20 _ (by omega) (by omega)) ?_
        refine q_blk (lv2 := [(0, vr f), (1, vl v2), (3, vr pa), (4, vi (D 3)), (5, vi i), (6, vr q20), (7, vr ca20), (8, vi (pN D i)), (9, vi k), (10, vi (100 * pX D i k + pY D i k))]) (st2 := []) kX9_sum_86 rfl ?_
        have xk := xy20 k (by omega) (by omega)
        refine AQ.of (AS.ldc2 (z := 31) eX9_sum_88 (am_gw 1534 (by decide +kernel) (by decide +kernel))) ?_
        refine q_blk (lv2 := [(0, vr f), (1, vl v2), (3, vr pa), (4, vi (D 3)), (5, vi i), (6, vr q20), (7, vr ca20), (8, vi (pN D i)), (9, vi k), (10, vi (100 * pX D i k + pY D i k))]) (st2 := [vi (100 * pX D i k + pY D i k), vl (31 * v2)]) kX9_sum_91 rfl ?_
        refine AQ.of (AS.i2l eX9_sum_95 (by first | assumption | exact ⟨by omega, by omega⟩ | exact ⟨by decide, by decide⟩)) ?_
        refine q_blk (lv2 := [(0, vr f), (1, vl ((31 * v2) + (100 * pX D i k + pY D i k))), (3, vr pa), (4, vi (D 3)), (5, vi i), (6, vr q20), (7, vr ca20), (8, vi (pN D i)), (9, vi (k + 1)), (10, vi (100 * pX D i k + pY D i k))]) (st2 := []) kX9_sum_96 rfl ?_
        refine q_goto (tgt := 74) eX9_sum_101 (by decide) ?_
        refine q_sub (lv2 := [(0, vr f), (1, vl ((31 * v2) + (100 * pX D i k + pY D i k))), (3, vr pa), (4, vi (D 3)), (5, vi i), (6, vr q20), (7, vr ca20), (8, vi (pN D i)), (9, vi (k + 1))]) [0, 1, 2, 3, 4, 5, 6, 7, 8] rfl ?_
        exact ih22 ((31 * v2) + (100 * pX D i k + pY D i k)) (k + 1) (⟨⟨by omega, by omega⟩, by rw [gm_k2_s k0, ← hv2]⟩) (by omega)
    · skip
      refine q_blk (lv2 := [(0, vr f), (1, vl v), (3, vr pa), (4, vi (D 3)), (5, vi i), (6, vr q20)]) (st2 := [vi 1, vl (31 * ((31 * v) + (pO D i)))]) kX9_sum_51 rfl ?_
      refine q_goto (tgt := 56) eX9_sum_52 (by decide) ?_
      refine AQ.of (AS.i2l eX9_sum_56 ⟨by decide, by decide⟩) ?_
      refine q_blk (lv2 := [(0, vr f), (1, vl ((31 * ((31 * v) + (pO D i))) + 1)), (3, vr pa), (4, vi (D 3)), (5, vi i), (6, vr q20)]) (st2 := [vr q20]) kX9_sum_57 rfl ?_
      refine q_gr eX9_sum_61 fl_RX9_37 (Or.inr ⟨_, rfl⟩) c20 rfl ?_
      refine q_blk (lv2 := [(0, vr f), (1, vl ((31 * ((31 * v) + (pO D i))) + 1)), (3, vr pa), (4, vi (D 3)), (5, vi i), (6, vr q20), (7, vr ca20)]) (st2 := [vr ca20]) kX9_sum_64 rfl ?_
      refine q_al eX9_sum_68 d20 (by decide) ?_
      refine q_blk (lv2 := [(0, vr f), (1, vl ((31 * ((31 * v) + (pO D i))) + 1)), (3, vr pa), (4, vi (D 3)), (5, vi i), (6, vr q20), (7, vr ca20), (8, vi (pN D i)), (9, vi 0)]) (st2 := []) kX9_sum_69 rfl ?_
      refine am_lp2 (I := fun (v2 : Int) (k : Int) => (0 ≤ k ∧ k ≤ pN D i) ∧ v2 = gm_k2 D i k.toNat (31 * (31 * gm_k1 D i.toNat + pO D i) + pC D i)) (μ := fun (v2 : Int) (k : Int) => (pN D i - k).toNat) (G := fun (v2 : Int) (k : Int) => AQ w m_X9_sum 74 74 [(0, vr f), (1, vl v2), (3, vr pa), (4, vi (D 3)), (5, vi i), (6, vr q20), (7, vr ca20), (8, vi (pN D i)), (9, vi k)] [] h (am_lng (fun z h1 => z = gm_k3 (gm_pt D cm L) 4 (gm_k3 cm (D 2).toNat (gm_k1 D (D 3).toNat)) ∧ KF h h1 NO 24 120))) ?_ ((31 * ((31 * v) + (pO D i))) + 1) 0 (⟨⟨by omega, by omega⟩, by rw [← hv]; show _ = 31 * (31 * v + pO D i) + pC D i; omega⟩)
      intro v2 k hI26 ih25
      obtain ⟨⟨k0, k1⟩, hv2⟩ := hI26
      refine q_blk (lv2 := [(0, vr f), (1, vl v2), (3, vr pa), (4, vi (D 3)), (5, vi i), (6, vr q20), (7, vr ca20), (8, vi (pN D i)), (9, vi k)]) (st2 := [vi (pN D i), vi k]) kX9_sum_74 rfl ?_
      refine AQ.ic_ge (tgt := 104) eX9_sum_78 (by decide) (by first | assumption | exact ⟨by omega, by omega⟩ | exact ⟨by decide, by decide⟩) (by first | assumption | exact ⟨by omega, by omega⟩ | exact ⟨by decide, by decide⟩) (fun br27 => ?_) (fun br27 => ?_)
      · skip
        refine q_blk (lv2 := [(0, vr f), (1, vl v2), (3, vr pa), (4, vi (D 3)), (5, vi (i + 1)), (6, vr q20), (7, vr ca20), (8, vi (pN D i)), (9, vi k)]) (st2 := []) kX9_sum_104 rfl ?_
        refine q_goto (tgt := 14) eX9_sum_107 (by decide) ?_
        refine q_sub (lv2 := [(0, vr f), (1, vl v2), (3, vr pa), (4, vi (D 3)), (5, vi (i + 1))]) [0, 1, 2, 3, 4] rfl ?_
        exact ih1 v2 (i + 1) (⟨⟨by omega, by omega⟩, by rw [gm_k1_s i0, hv2, show k = pN D i by omega]⟩) (by omega)
      · skip
        refine q_blk (lv2 := [(0, vr f), (1, vl v2), (3, vr pa), (4, vi (D 3)), (5, vi i), (6, vr q20), (7, vr ca20), (8, vi (pN D i)), (9, vi k)]) (st2 := [vi k, vr ca20]) kX9_sum_81 rfl ?_
        refine q_ia eX9_sum_85 d20 (by decide) (by omega) (by omega) (z := (100 * pX D i k + pY D i k)) (e20 _ (by omega) (by omega)) ?_
        refine q_blk (lv2 := [(0, vr f), (1, vl v2), (3, vr pa), (4, vi (D 3)), (5, vi i), (6, vr q20), (7, vr ca20), (8, vi (pN D i)), (9, vi k), (10, vi (100 * pX D i k + pY D i k))]) (st2 := []) kX9_sum_86 rfl ?_
        have xk := xy20 k (by omega) (by omega)
        refine AQ.of (AS.ldc2 (z := 31) eX9_sum_88 (am_gw 1534 (by decide +kernel) (by decide +kernel))) ?_
        refine q_blk (lv2 := [(0, vr f), (1, vl v2), (3, vr pa), (4, vi (D 3)), (5, vi i), (6, vr q20), (7, vr ca20), (8, vi (pN D i)), (9, vi k), (10, vi (100 * pX D i k + pY D i k))]) (st2 := [vi (100 * pX D i k + pY D i k), vl (31 * v2)]) kX9_sum_91 rfl ?_
        refine AQ.of (AS.i2l eX9_sum_95 (by first | assumption | exact ⟨by omega, by omega⟩ | exact ⟨by decide, by decide⟩)) ?_
        refine q_blk (lv2 := [(0, vr f), (1, vl ((31 * v2) + (100 * pX D i k + pY D i k))), (3, vr pa), (4, vi (D 3)), (5, vi i), (6, vr q20), (7, vr ca20), (8, vi (pN D i)), (9, vi (k + 1)), (10, vi (100 * pX D i k + pY D i k))]) (st2 := []) kX9_sum_96 rfl ?_
        refine q_goto (tgt := 74) eX9_sum_101 (by decide) ?_
        refine q_sub (lv2 := [(0, vr f), (1, vl ((31 * v2) + (100 * pX D i k + pY D i k))), (3, vr pa), (4, vi (D 3)), (5, vi i), (6, vr q20), (7, vr ca20), (8, vi (pN D i)), (9, vi (k + 1))]) [0, 1, 2, 3, 4, 5, 6, 7, 8] rfl ?_
        exact ih25 ((31 * v2) + (100 * pX D i k + pY D i k)) (k + 1) (⟨⟨by omega, by omega⟩, by rw [gm_k2_s k0, ← hv2]⟩) (by omega)
