/-! The law's Field: reasons, claims. -/
theorem gm_ncr {D : Int → Int} {x y p k : Int} (h : ¬ gm_crn D x y) (p0 : 0 ≤ p) (p1 : p < D 3) (k0 : 0 ≤ k) (k1 : k < pN D p) : x ≠ pX D p k ∨ y ≠ pY D p k := Classical.byContradiction fun q => h ⟨p, p0, p1, k, k0, k1, by omega, by omega⟩
theorem gm_nst {D : Int → Int} {p k : Int} (hX : DX D) (p0 : 0 ≤ p) (p1 : p < D 3) (k0 : 0 ≤ k) (k1 : k < pN D p) : ¬ gm_stn D (pX D p k) (pY D p k) := fun ⟨s, s0, s1, e1, e2⟩ => hX.2 s p k s0 s1 p0 p1 k0 k1 ⟨e1, e2⟩
theorem gm_mdp {n k : Int} (h0 : 0 ≤ k) (h1 : k < n) : Int.tmod (k + n - 1) n = gm_pv n k := by
  unfold gm_pv
  rw [Int.tmod_eq_emod_of_nonneg (by omega)]
  by_cases e : 0 < k
  · rw [if_pos e, show k + n - 1 = k - 1 + n by omega, Int.add_emod_right]
    exact Int.emod_eq_of_lt (by omega) (by omega)
  · rw [if_neg e, show k + n - 1 = n - 1 by omega]
    exact Int.emod_eq_of_lt (by omega) (by omega)
/-- a closed polygon around a point; the smallest of them, the last one where two are as great -/
def gm_cnd (D : Int → Int) (x y p : Int) : Prop := pC D p = 1 ∧ gm_inD D p x y
def gm_sm3 (D : Int → Int) (x y i b : Int) : Prop := (b = -1 ∧ ∀ p, i < p → p < D 3 → ¬ gm_cnd D x y p) ∨ ((i < b ∧ b < D 3) ∧ gm_cnd D x y b ∧ ∀ p, i < p → p < D 3 → gm_cnd D x y p → gm_arD D b ≤ gm_arD D p)
def gm_sm2 (D : Int → Int) (x y z : Int) : Prop := gm_sm3 D x y (-1) z
theorem gm_sm3_n {D : Int → Int} {x y i b : Int} (h : gm_sm3 D x y i b) (hc : ¬ gm_cnd D x y i) : gm_sm3 D x y (i + -1) b := by
  have k : ∀ p, i + -1 < p → ¬ p = i → i < p := fun p h1 h2 => by omega
  rcases h with ⟨e, q⟩ | ⟨⟨r1, r2⟩, q1, q2⟩
  · refine Or.inl ⟨e, fun p p0 p1 => ?_⟩
    by_cases z : p = i
    · rw [z]; exact hc
    · exact q p (k p p0 z) p1
  · refine Or.inr ⟨⟨by omega, r2⟩, q1, fun p p0 p1 w => ?_⟩
    by_cases z : p = i
    · rw [z] at w; exact absurd w hc
    · exact q2 p (k p p0 z) p1 w
theorem gm_sm3_k {D : Int → Int} {x y i b : Int} (h : gm_sm3 D x y i b) (hb : ¬ b < 0) (ha : gm_arD D b ≤ gm_arD D i) : gm_sm3 D x y (i + -1) b := by
  rcases h with ⟨e, q⟩ | ⟨⟨r1, r2⟩, q1, q2⟩
  · omega
  · refine Or.inr ⟨⟨by omega, r2⟩, q1, fun p p0 p1 w => ?_⟩
    by_cases z : p = i
    · rw [z]; exact ha
    · exact q2 p (by omega) p1 w
theorem gm_sm3_t {D : Int → Int} {x y i b : Int} (h : gm_sm3 D x y i b) (i0 : 0 ≤ i) (i1 : i < D 3) (hc : gm_cnd D x y i) (ha : b < 0 ∨ gm_arD D i < gm_arD D b) : gm_sm3 D x y (i + -1) i := by
  refine Or.inr ⟨⟨by omega, i1⟩, hc, fun p p0 p1 w => ?_⟩
  by_cases z : p = i
  · rw [z]; exact Int.le_refl _
  · rcases h with ⟨e, q⟩ | ⟨⟨r1, r2⟩, q1, q2⟩
    · exact absurd w (q p (by omega) p1)
    · have := q2 p (by omega) p1 w
      rcases ha with ha | ha
      · have := hc
        omega
      · omega
theorem gm_sm3_r {D : Int → Int} {x y i b : Int} (h : gm_sm3 D x y i b) (hi : -1 ≤ i) : (b = -1 ∨ (i < b ∧ b < D 3)) ∧ (¬ b < 0 → i < b ∧ b < D 3) := by
  rcases h with ⟨e, -⟩ | ⟨r, -⟩
  · exact ⟨Or.inl e, fun q => by omega⟩
  · exact ⟨Or.inr r, fun _ => r⟩
theorem gm_si_r {z n x y : Int} {xs ys : Int → Int} (h : gm_si z n xs ys x y) : 0 ≤ z ∧ z ≤ 2 := by
  rcases h with ⟨e, _⟩ | ⟨e, _⟩ | ⟨e, _⟩ <;> omega
theorem gm_si_in {z n x y : Int} {xs ys : Int → Int} (h : gm_si z n xs ys x y) : z = 2 ↔ (¬ gm_os n n xs ys x y ∧ gm_od n xs ys x y n.toNat) := by
  rcases h with ⟨e, a⟩ | ⟨e, a⟩ | ⟨e, a, b⟩
  · exact ⟨fun q => by omega, fun q => absurd a q.1⟩
  · exact ⟨fun _ => a, fun _ => e⟩
  · exact ⟨fun q => by omega, fun q => absurd q.2 b⟩
/-- who claims, by the class, is the one that the law finds -/
def UQ (D cm : Int → Int) : Prop := ∀ k z, 0 ≤ k → k < D 2 → gm_sm2 D (sX D k) (sY D k) z → z = cm k

set_option maxRecDepth 4000 in
set_option maxHeartbeats 1000000 in
theorem c_X9_corner {w : am_w} {h : AH} {B : Nat → Prop} {f sa pa : Nat} {gs gp : Int → Option Nat} {T : Option Nat} {D : Int → Int} (hF : FLD h B f sa pa gs gp T D) (hD : VD D) (hX : DX D) {p : Int} (p0 : 0 ≤ p) (p1 : p < D 3) {x y : Int} (hx : am_c x) (hy : am_c y)  : AE w m_X9_corner 66 [vr f, vi p, vi x, vi y] h (am_intp h (fun z => gm_rC D p x y z)) := by
  refine AE.of wf_X9_corner (Nat.le_of_ble_eq_true rfl) (am_ok_ip) ?_
  obtain ⟨⟨bf, bs, bp⟩, C0, ⟨fz1, C1⟩, ⟨fz2, C2⟩, hst, hsh, hij⟩ := id hF
  have d0 := hD.1
  have d1 := hD.2.1
  have d2 := hD.2.2.1
  have d3 := hD.2.2.2.1
  have x0 := hx.1
  have x1 := hx.2
  have y0 := hy.1
  have y1 := hy.2
  refine q_blk (lv2 := [(0, vr f), (1, vi p), (2, vi x), (3, vi y)]) (st2 := [vr f]) kX9_corner_0 rfl ?_
  refine q_gr eX9_corner_1 fl_RX9_24 (Or.inr ⟨_, rfl⟩) C0 rfl ?_
  refine q_blk (lv2 := [(0, vr f), (1, vi p), (2, vi x), (3, vi y)]) (st2 := [vi p, vr pa]) kX9_corner_4 rfl ?_
  obtain ⟨q1, g1, l1⟩ := hsh p (by omega) (by omega)
  obtain ⟨ca1, cf1, ⟨w1, u1⟩, c1, d1, e1⟩ := id l1
  obtain ⟨⟨o1, o1'⟩, ⟨n1, n1'⟩, cc1, xy1⟩ := hD.2.2.2.2.2 p (by omega) (by omega)
  have vc1 := hD.vc (p := p) (by omega) (by omega)
  have ar1 := gm_ar_r vc1 (by omega) n1'
  refine q_aa eX9_corner_5 C2 (by decide) (by omega) (by omega) g1 ?_
  refine q_blk (lv2 := [(0, vr f), (1, vi p), (2, vi x), (3, vi y), (4, vr q1)]) (st2 := [vr q1]) kX9_corner_6 rfl ?_
  refine q_gr eX9_corner_10 fl_RX9_37 (Or.inr ⟨_, rfl⟩) c1 rfl ?_
  refine q_al eX9_corner_13 d1 (by decide) ?_
  refine q_blk (lv2 := [(0, vr f), (1, vi p), (2, vi x), (3, vi y), (4, vr q1), (5, vi (pN D p))]) (st2 := [vr q1]) kX9_corner_14 rfl ?_
  refine q_gi eX9_corner_18 fl_RX9_76 (Or.inr rfl) c1 (z := (pC D p)) rfl ?_
  refine AQ.if_eq (tgt := 26) eX9_corner_21 (by decide) (by first | assumption | exact ⟨by omega, by omega⟩) (fun br2 => ?_) (fun br2 => ?_)
  · skip
    refine q_blk (lv2 := [(0, vr f), (1, vi p), (2, vi x), (3, vi y), (4, vr q1), (5, vi (pN D p))]) (st2 := [vi 12, vi (pN D p)]) kX9_corner_26 rfl ?_
    refine AQ.ic_ne (tgt := 35) eX9_corner_30 (by decide) (by first | assumption | exact ⟨by omega, by omega⟩) ⟨by decide, by decide⟩ (fun br3 => ?_) (fun br3 => ?_)
    · skip
      refine q_blk (lv2 := [(0, vr f), (1, vi p), (2, vi x), (3, vi y), (4, vr q1), (5, vi (pN D p))]) (st2 := [vi y, vi x, vr f]) kX9_corner_35 rfl ?_
      refine q_Vi (av := [vi x, vi y]) (st := []) (c_X9_isStone hF hD hx hy) lk_RX9_65 (by decide) rfl rfl hF.ob ⟨_, rfl, rfl⟩ (Nat.le_of_ble_eq_true rfl) eX9_corner_38 (fun z4 e5 => ?_)
      rcases e5 with ⟨rfl, e5⟩ | ⟨rfl, e5⟩
      · skip
        refine AQ.of (AS.if_ne_t (tgt := 53) eX9_corner_41 (by decide) ⟨by decide, by decide⟩ (by decide)) ?_
        refine q_blk (lv2 := [(0, vr f), (1, vi p), (2, vi x), (3, vi y), (4, vr q1), (5, vi (pN D p))]) (st2 := [vi 3]) kX9_corner_53 rfl ?_
        exact q_ri rfl eX9_corner_54 ⟨3, rfl, Or.inr ⟨by omega, Or.inr ⟨by omega, Or.inl ⟨Or.inl e5, rfl⟩⟩⟩, rfl⟩
      · skip
        refine AQ.of (AS.if_ne_f eX9_corner_41 ⟨by decide, by decide⟩ (by decide) (by decide)) ?_
        refine q_blk (lv2 := [(0, vr f), (1, vi p), (2, vi x), (3, vi y), (4, vr q1), (5, vi (pN D p))]) (st2 := [vi y, vi x, vr f]) kX9_corner_44 rfl ?_
        refine q_Vi (av := [vi x, vi y]) (st := []) (c_X9_isCorner hF hD hx hy) lk_RX9_69 (by decide) rfl rfl hF.ob ⟨_, rfl, rfl⟩ (Nat.le_of_ble_eq_true rfl) eX9_corner_47 (fun z6 e7 => ?_)
        rcases e7 with ⟨rfl, e7⟩ | ⟨rfl, e7⟩
        · skip
          refine AQ.of (AS.if_eq_f eX9_corner_50 ⟨by decide, by decide⟩ (by decide) (by decide)) ?_
          refine q_blk (lv2 := [(0, vr f), (1, vi p), (2, vi x), (3, vi y), (4, vr q1), (5, vi (pN D p))]) (st2 := [vi 3]) kX9_corner_53 rfl ?_
          exact q_ri rfl eX9_corner_54 ⟨3, rfl, Or.inr ⟨by omega, Or.inr ⟨by omega, Or.inl ⟨Or.inr e7, rfl⟩⟩⟩, rfl⟩
        · skip
          refine AQ.of (AS.if_eq_t (tgt := 55) eX9_corner_50 (by decide) ⟨by decide, by decide⟩ (by decide)) ?_
          have vl := vc1 (pN D p - 1) (by omega) (by omega)
          refine q_blk (lv2 := [(0, vr f), (1, vi p), (2, vi x), (3, vi y), (4, vr q1), (5, vi (pN D p))]) (st2 := [vi ((pN D p) - 1), vr q1, vr f]) kX9_corner_55 rfl ?_
          refine q_Vi (av := [vi ((pN D p) - 1)]) (st := [vr f]) (c_X12_x0 l1 vc1 n1 n1' (k := ((pN D p) - 1)) (by omega) (by omega)) lk_RX9_44 (by decide) rfl rfl l1.ob ⟨_, rfl, rfl⟩ (Nat.le_of_ble_eq_true rfl) eX9_corner_62 (fun z8 e9 => ?_)
          subst e9
          refine q_blk (lv2 := [(0, vr f), (1, vi p), (2, vi x), (3, vi y), (4, vr q1), (5, vi (pN D p))]) (st2 := [vi ((pN D p) - 1), vr q1, vi ((pX D p) ((pN D p) - 1)), vr f]) kX9_corner_65 rfl ?_
          refine q_Vi (av := [vi ((pN D p) - 1)]) (st := [vi ((pX D p) ((pN D p) - 1)), vr f]) (c_X12_y0 l1 vc1 n1 n1' (k := ((pN D p) - 1)) (by omega) (by omega)) lk_RX9_48 (by decide) rfl rfl l1.ob ⟨_, rfl, rfl⟩ (Nat.le_of_ble_eq_true rfl) eX9_corner_71 (fun z10 e11 => ?_)
          subst e11
          refine q_blk (lv2 := [(0, vr f), (1, vi p), (2, vi x), (3, vi y), (4, vr q1), (5, vi (pN D p))]) (st2 := [vi (-1), vi (-1), vi (-1), vi (-1), vi y, vi x, vi ((pY D p) ((pN D p) - 1)), vi ((pX D p) ((pN D p) - 1)), vr f]) kX9_corner_74 rfl ?_
          refine q_Vi (av := [vi ((pX D p) ((pN D p) - 1)), vi ((pY D p) ((pN D p) - 1)), vi x, vi y, vi (-1), vi (-1), vi (-1), vi (-1)]) (st := []) (c_X9_line hF hD hX (lp := (-1)) (l1 := (-1)) (l2 := (-1)) (lc := (-1)) vl.1 vl.2 hx hy (gm_ncr e7 p0 p1 (k := pN D p - 1) (by omega) (by omega)) ⟨⟨by omega, by omega⟩, ⟨by omega, by omega⟩, ⟨by omega, by omega⟩, ⟨by omega, by omega⟩⟩ (Or.inl (by omega)) (gm_nst hX p0 p1 (by omega) (by omega)) e5) lk_RX9_80 (by decide) rfl rfl hF.ob ⟨_, rfl, rfl⟩ (Nat.le_of_ble_eq_true rfl) eX9_corner_80 (fun z12 e13 => ?_)
          exact q_ri rfl eX9_corner_83 ⟨z12, rfl, Or.inr ⟨by omega, Or.inr ⟨by omega, Or.inr ⟨fun q9 => q9.elim e5 e7, e13⟩⟩⟩, rfl⟩
    · skip
      refine q_blk (lv2 := [(0, vr f), (1, vi p), (2, vi x), (3, vi y), (4, vr q1), (5, vi (pN D p))]) (st2 := [vi 2]) kX9_corner_33 rfl ?_
      exact q_ri rfl eX9_corner_34 ⟨2, rfl, Or.inr ⟨by omega, Or.inl ⟨by omega, rfl⟩⟩, rfl⟩
  · skip
    refine q_blk (lv2 := [(0, vr f), (1, vi p), (2, vi x), (3, vi y), (4, vr q1), (5, vi (pN D p))]) (st2 := [vi 1]) kX9_corner_24 rfl ?_
    exact q_ri rfl eX9_corner_25 ⟨1, rfl, Or.inl ⟨by omega, rfl⟩, rfl⟩

set_option maxRecDepth 4000 in
set_option maxHeartbeats 1000000 in
theorem c_X9_close {w : am_w} {h : AH} {B : Nat → Prop} {f sa pa : Nat} {gs gp : Int → Option Nat} {T : Option Nat} {D : Int → Int} (hF : FLD h B f sa pa gs gp T D) (hD : VD D) (hX : DX D) {p : Int} (p0 : 0 ≤ p) (p1 : p < D 3)  : AE w m_X9_close 66 [vr f, vi p] h (am_intp h (fun z => gm_rL D p z)) := by
  refine AE.of wf_X9_close (Nat.le_of_ble_eq_true rfl) (am_ok_ip) ?_
  obtain ⟨⟨bf, bs, bp⟩, C0, ⟨fz1, C1⟩, ⟨fz2, C2⟩, hst, hsh, hij⟩ := id hF
  have d0 := hD.1
  have d1 := hD.2.1
  have d2 := hD.2.2.1
  have d3 := hD.2.2.2.1
  refine q_blk (lv2 := [(0, vr f), (1, vi p)]) (st2 := [vr f]) kX9_close_0 rfl ?_
  refine q_gr eX9_close_1 fl_RX9_24 (Or.inr ⟨_, rfl⟩) C0 rfl ?_
  refine q_blk (lv2 := [(0, vr f), (1, vi p)]) (st2 := [vi p, vr pa]) kX9_close_4 rfl ?_
  obtain ⟨q1, g1, l1⟩ := hsh p (by omega) (by omega)
  obtain ⟨ca1, cf1, ⟨w1, u1⟩, c1, d1, e1⟩ := id l1
  obtain ⟨⟨o1, o1'⟩, ⟨n1, n1'⟩, cc1, xy1⟩ := hD.2.2.2.2.2 p (by omega) (by omega)
  have vc1 := hD.vc (p := p) (by omega) (by omega)
  have ar1 := gm_ar_r vc1 (by omega) n1'
  refine q_aa eX9_close_5 C2 (by decide) (by omega) (by omega) g1 ?_
  refine q_blk (lv2 := [(0, vr f), (1, vi p), (2, vr q1)]) (st2 := [vr q1]) kX9_close_6 rfl ?_
  refine q_gr eX9_close_8 fl_RX9_37 (Or.inr ⟨_, rfl⟩) c1 rfl ?_
  refine q_al eX9_close_11 d1 (by decide) ?_
  refine q_blk (lv2 := [(0, vr f), (1, vi p), (2, vr q1), (3, vi (pN D p))]) (st2 := [vr q1]) kX9_close_12 rfl ?_
  refine q_gi eX9_close_14 fl_RX9_76 (Or.inr rfl) c1 (z := (pC D p)) rfl ?_
  refine AQ.if_eq (tgt := 24) eX9_close_17 (by decide) (by first | assumption | exact ⟨by omega, by omega⟩) (fun br2 => ?_) (fun br2 => ?_)
  · skip
    refine q_blk (lv2 := [(0, vr f), (1, vi p), (2, vr q1), (3, vi (pN D p))]) (st2 := [vi 3, vi (pN D p)]) kX9_close_24 rfl ?_
    refine AQ.ic_ge (tgt := 34) eX9_close_26 (by decide) (by first | assumption | exact ⟨by omega, by omega⟩) ⟨by decide, by decide⟩ (fun br3 => ?_) (fun br3 => ?_)
    · skip
      have vl := vc1 (pN D p - 1) (by omega) (by omega)
      have v0 := vc1 0 (by omega) (by omega)
      refine q_blk (lv2 := [(0, vr f), (1, vi p), (2, vr q1), (3, vi (pN D p))]) (st2 := [vi ((pN D p) - 1), vr q1, vr f]) kX9_close_34 rfl ?_
      refine q_Vi (av := [vi ((pN D p) - 1)]) (st := [vr f]) (c_X12_x0 l1 vc1 n1 n1' (k := ((pN D p) - 1)) (by omega) (by omega)) lk_RX9_44 (by decide) rfl rfl l1.ob ⟨_, rfl, rfl⟩ (Nat.le_of_ble_eq_true rfl) eX9_close_39 (fun z4 e5 => ?_)
      subst e5
      refine q_blk (lv2 := [(0, vr f), (1, vi p), (2, vr q1), (3, vi (pN D p))]) (st2 := [vi ((pN D p) - 1), vr q1, vi ((pX D p) ((pN D p) - 1)), vr f]) kX9_close_42 rfl ?_
      refine q_Vi (av := [vi ((pN D p) - 1)]) (st := [vi ((pX D p) ((pN D p) - 1)), vr f]) (c_X12_y0 l1 vc1 n1 n1' (k := ((pN D p) - 1)) (by omega) (by omega)) lk_RX9_48 (by decide) rfl rfl l1.ob ⟨_, rfl, rfl⟩ (Nat.le_of_ble_eq_true rfl) eX9_close_46 (fun z6 e7 => ?_)
      subst e7
      refine q_blk (lv2 := [(0, vr f), (1, vi p), (2, vr q1), (3, vi (pN D p))]) (st2 := [vi 0, vr q1, vi ((pY D p) ((pN D p) - 1)), vi ((pX D p) ((pN D p) - 1)), vr f]) kX9_close_49 rfl ?_
      refine q_Vi (av := [vi 0]) (st := [vi ((pY D p) ((pN D p) - 1)), vi ((pX D p) ((pN D p) - 1)), vr f]) (c_X12_x0 l1 vc1 n1 n1' (k := 0) (by omega) (by omega)) lk_RX9_44 (by decide) rfl rfl l1.ob ⟨_, rfl, rfl⟩ (Nat.le_of_ble_eq_true rfl) eX9_close_51 (fun z8 e9 => ?_)
      subst e9
      refine q_blk (lv2 := [(0, vr f), (1, vi p), (2, vr q1), (3, vi (pN D p))]) (st2 := [vi 0, vr q1, vi ((pX D p) 0), vi ((pY D p) ((pN D p) - 1)), vi ((pX D p) ((pN D p) - 1)), vr f]) kX9_close_54 rfl ?_
      refine q_Vi (av := [vi 0]) (st := [vi ((pX D p) 0), vi ((pY D p) ((pN D p) - 1)), vi ((pX D p) ((pN D p) - 1)), vr f]) (c_X12_y0 l1 vc1 n1 n1' (k := 0) (by omega) (by omega)) lk_RX9_48 (by decide) rfl rfl l1.ob ⟨_, rfl, rfl⟩ (Nat.le_of_ble_eq_true rfl) eX9_close_56 (fun z10 e11 => ?_)
      subst e11
      refine q_blk (lv2 := [(0, vr f), (1, vi p), (2, vr q1), (3, vi (pN D p))]) (st2 := [vi (-1), vi (-1), vi (-1), vi (-1), vi ((pY D p) 0), vi ((pX D p) 0), vi ((pY D p) ((pN D p) - 1)), vi ((pX D p) ((pN D p) - 1)), vr f]) kX9_close_59 rfl ?_
      refine q_Vi (av := [vi ((pX D p) ((pN D p) - 1)), vi ((pY D p) ((pN D p) - 1)), vi ((pX D p) 0), vi ((pY D p) 0), vi (-1), vi (-1), vi (-1), vi (-1)]) (st := []) (c_X9_line hF hD hX (lp := (-1)) (l1 := (-1)) (l2 := (-1)) (lc := (-1)) vl.1 vl.2 v0.1 v0.2 (hX.ve.ne p0 p1 (k := pN D p - 1) (m := 0) (by omega) (by omega) (by omega) (by omega) (by omega)) ⟨⟨by omega, by omega⟩, ⟨by omega, by omega⟩, ⟨by omega, by omega⟩, ⟨by omega, by omega⟩⟩ (Or.inl (by omega)) (gm_nst hX p0 p1 (by omega) (by omega)) (gm_nst hX p0 p1 (by omega) (by omega))) lk_RX9_80 (by decide) rfl rfl hF.ob ⟨_, rfl, rfl⟩ (Nat.le_of_ble_eq_true rfl) eX9_close_63 (fun z12 e13 => ?_)
      exact q_ri rfl eX9_close_66 ⟨z12, rfl, Or.inr ⟨by omega, Or.inr ⟨by omega, e13⟩⟩, rfl⟩
    · skip
      refine q_blk (lv2 := [(0, vr f), (1, vi p), (2, vr q1), (3, vi (pN D p))]) (st2 := [vi 6]) kX9_close_29 rfl ?_
      refine q_goto (tgt := 66) eX9_close_31 (by decide) ?_
      exact q_ri rfl eX9_close_66 ⟨6, rfl, Or.inr ⟨by omega, Or.inl ⟨by omega, rfl⟩⟩, rfl⟩
  · skip
    refine q_blk (lv2 := [(0, vr f), (1, vi p), (2, vr q1), (3, vi (pN D p))]) (st2 := [vi 1]) kX9_close_20 rfl ?_
    refine q_goto (tgt := 66) eX9_close_21 (by decide) ?_
    exact q_ri rfl eX9_close_66 ⟨1, rfl, Or.inl ⟨by omega, rfl⟩, rfl⟩

set_option maxRecDepth 4000 in
set_option maxHeartbeats 1000000 in
theorem c_X9_bend {w : am_w} {h : AH} {B : Nat → Prop} {f sa pa : Nat} {gs gp : Int → Option Nat} {T : Option Nat} {D : Int → Int} (hF : FLD h B f sa pa gs gp T D) (hD : VD D) (hX : DX D) {p : Int} (p0 : 0 ≤ p) (p1 : p < D 3) {k : Int} (k0 : 0 ≤ k) (k1 : k < pN D p) {x y : Int} (hx : am_c x) (hy : am_c y)  : AE w m_X9_bend 66 [vr f, vi p, vi k, vi x, vi y] h (am_intp h (fun z => gm_rB D p k x y z)) := by
  refine AE.of wf_X9_bend (Nat.le_of_ble_eq_true rfl) (am_ok_ip) ?_
  obtain ⟨⟨bf, bs, bp⟩, C0, ⟨fz1, C1⟩, ⟨fz2, C2⟩, hst, hsh, hij⟩ := id hF
  have d0 := hD.1
  have d1 := hD.2.1
  have d2 := hD.2.2.1
  have d3 := hD.2.2.2.1
  have x0 := hx.1
  have x1 := hx.2
  have y0 := hy.1
  have y1 := hy.2
  refine q_blk (lv2 := [(0, vr f), (1, vi p), (2, vi k), (3, vi x), (4, vi y)]) (st2 := [vr f]) kX9_bend_0 rfl ?_
  refine q_gr eX9_bend_1 fl_RX9_24 (Or.inr ⟨_, rfl⟩) C0 rfl ?_
  refine q_blk (lv2 := [(0, vr f), (1, vi p), (2, vi k), (3, vi x), (4, vi y)]) (st2 := [vi p, vr pa]) kX9_bend_4 rfl ?_
  obtain ⟨q1, g1, l1⟩ := hsh p (by omega) (by omega)
  obtain ⟨ca1, cf1, ⟨w1, u1⟩, c1, d1, e1⟩ := id l1
  obtain ⟨⟨o1, o1'⟩, ⟨n1, n1'⟩, cc1, xy1⟩ := hD.2.2.2.2.2 p (by omega) (by omega)
  have vc1 := hD.vc (p := p) (by omega) (by omega)
  have ar1 := gm_ar_r vc1 (by omega) n1'
  refine q_aa eX9_bend_5 C2 (by decide) (by omega) (by omega) g1 ?_
  refine q_blk (lv2 := [(0, vr f), (1, vi p), (2, vi k), (3, vi x), (4, vi y), (5, vr q1)]) (st2 := [vr q1]) kX9_bend_6 rfl ?_
  refine q_gi eX9_bend_10 fl_RX9_76 (Or.inr rfl) c1 (z := (pC D p)) rfl ?_
  refine AQ.if_ne (tgt := 18) eX9_bend_13 (by decide) (by first | assumption | exact ⟨by omega, by omega⟩) (fun br2 => ?_) (fun br2 => ?_)
  · skip
    refine q_blk (lv2 := [(0, vr f), (1, vi p), (2, vi k), (3, vi x), (4, vi y), (5, vr q1)]) (st2 := [vr q1]) kX9_bend_18 rfl ?_
    refine q_gr eX9_bend_20 fl_RX9_37 (Or.inr ⟨_, rfl⟩) c1 rfl ?_
    refine q_al eX9_bend_23 d1 (by decide) ?_
    refine q_blk (lv2 := [(0, vr f), (1, vi p), (2, vi k), (3, vi x), (4, vi y), (5, vr q1)]) (st2 := [vi 12, vi (pN D p)]) kX9_bend_24 rfl ?_
    refine AQ.ic_ne (tgt := 31) eX9_bend_26 (by decide) (by first | assumption | exact ⟨by omega, by omega⟩) ⟨by decide, by decide⟩ (fun br3 => ?_) (fun br3 => ?_)
    · skip
      refine q_blk (lv2 := [(0, vr f), (1, vi p), (2, vi k), (3, vi x), (4, vi y), (5, vr q1)]) (st2 := [vi y, vi x, vr f]) kX9_bend_31 rfl ?_
      refine q_Vi (av := [vi x, vi y]) (st := []) (c_X9_isStone hF hD hx hy) lk_RX9_65 (by decide) rfl rfl hF.ob ⟨_, rfl, rfl⟩ (Nat.le_of_ble_eq_true rfl) eX9_bend_35 (fun z4 e5 => ?_)
      rcases e5 with ⟨rfl, e5⟩ | ⟨rfl, e5⟩
      · skip
        refine AQ.of (AS.if_ne_t (tgt := 51) eX9_bend_38 (by decide) ⟨by decide, by decide⟩ (by decide)) ?_
        refine q_blk (lv2 := [(0, vr f), (1, vi p), (2, vi k), (3, vi x), (4, vi y), (5, vr q1)]) (st2 := [vi 3]) kX9_bend_51 rfl ?_
        exact q_ri rfl eX9_bend_52 ⟨3, rfl, Or.inr ⟨by omega, Or.inr ⟨by omega, Or.inl ⟨Or.inl e5, rfl⟩⟩⟩, rfl⟩
      · skip
        refine AQ.of (AS.if_ne_f eX9_bend_38 ⟨by decide, by decide⟩ (by decide) (by decide)) ?_
        refine q_blk (lv2 := [(0, vr f), (1, vi p), (2, vi k), (3, vi x), (4, vi y), (5, vr q1)]) (st2 := [vi y, vi x, vr f]) kX9_bend_41 rfl ?_
        refine q_Vi (av := [vi x, vi y]) (st := []) (c_X9_isCorner hF hD hx hy) lk_RX9_69 (by decide) rfl rfl hF.ob ⟨_, rfl, rfl⟩ (Nat.le_of_ble_eq_true rfl) eX9_bend_45 (fun z6 e7 => ?_)
        rcases e7 with ⟨rfl, e7⟩ | ⟨rfl, e7⟩
        · skip
          refine AQ.of (AS.if_eq_f eX9_bend_48 ⟨by decide, by decide⟩ (by decide) (by decide)) ?_
          refine q_blk (lv2 := [(0, vr f), (1, vi p), (2, vi k), (3, vi x), (4, vi y), (5, vr q1)]) (st2 := [vi 3]) kX9_bend_51 rfl ?_
          exact q_ri rfl eX9_bend_52 ⟨3, rfl, Or.inr ⟨by omega, Or.inr ⟨by omega, Or.inl ⟨Or.inr e7, rfl⟩⟩⟩, rfl⟩
        · skip
          refine AQ.of (AS.if_eq_t (tgt := 53) eX9_bend_48 (by decide) ⟨by decide, by decide⟩ (by decide)) ?_
          have vl := vc1 k k0 k1
          refine q_blk (lv2 := [(0, vr f), (1, vi p), (2, vi k), (3, vi x), (4, vi y), (5, vr q1)]) (st2 := [vi k, vr q1, vr f]) kX9_bend_53 rfl ?_
          refine q_Vi (av := [vi k]) (st := [vr f]) (c_X12_x0 l1 vc1 n1 n1' (k := k) (by omega) (by omega)) lk_RX9_44 (by decide) rfl rfl l1.ob ⟨_, rfl, rfl⟩ (Nat.le_of_ble_eq_true rfl) eX9_bend_57 (fun z8 e9 => ?_)
          subst e9
          refine q_blk (lv2 := [(0, vr f), (1, vi p), (2, vi k), (3, vi x), (4, vi y), (5, vr q1)]) (st2 := [vi k, vr q1, vi ((pX D p) k), vr f]) kX9_bend_60 rfl ?_
          refine q_Vi (av := [vi k]) (st := [vi ((pX D p) k), vr f]) (c_X12_y0 l1 vc1 n1 n1' (k := k) (by omega) (by omega)) lk_RX9_48 (by decide) rfl rfl l1.ob ⟨_, rfl, rfl⟩ (Nat.le_of_ble_eq_true rfl) eX9_bend_63 (fun z10 e11 => ?_)
          subst e11
          refine q_blk (lv2 := [(0, vr f), (1, vi p), (2, vi k), (3, vi x), (4, vi y), (5, vr q1)]) (st2 := [vi (-1), vi (-1), vi k, vi p, vi y, vi x, vi ((pY D p) k), vi ((pX D p) k), vr f]) kX9_bend_66 rfl ?_
          refine q_Vi (av := [vi ((pX D p) k), vi ((pY D p) k), vi x, vi y, vi p, vi k, vi (-1), vi (-1)]) (st := []) (c_X9_line hF hD hX (lp := p) (l1 := k) (l2 := (-1)) (lc := (-1)) vl.1 vl.2 hx hy (gm_ncr e7 p0 p1 k0 k1) ⟨⟨by omega, by omega⟩, ⟨by omega, by omega⟩, ⟨by omega, by omega⟩, ⟨by omega, by omega⟩⟩ (Or.inl (by omega)) (gm_nst hX p0 p1 k0 k1) e5) lk_RX9_80 (by decide) rfl rfl hF.ob ⟨_, rfl, rfl⟩ (Nat.le_of_ble_eq_true rfl) eX9_bend_73 (fun z12 e13 => ?_)
          have r9 := gm_lr_r e13
          refine q_blk (lv2 := [(0, vr f), (1, vi p), (2, vi k), (3, vi x), (4, vi y), (5, vr q1), (6, vi z12)]) (st2 := [vi z12]) kX9_bend_76 rfl ?_
          refine AQ.if_le (tgt := 88) eX9_bend_80 (by decide) (by first | assumption | exact ⟨by omega, by omega⟩) (fun br14 => ?_) (fun br14 => ?_)
          · skip
            have nr := gm_nx_r k0 k1
            have vn := vc1 _ nr.1 nr.2
            refine q_blk (lv2 := [(0, vr f), (1, vi p), (2, vi k), (3, vi x), (4, vi y), (5, vr q1), (6, vi z12)]) (st2 := [vi (k + 1), vr q1, vr f]) kX9_bend_88 rfl ?_
            refine q_Vi (av := [vi (k + 1)]) (st := [vr f]) (c_X12_x1 l1 vc1 n1 n1' (k := k) (by omega) (by omega)) lk_RX9_44 (by decide) rfl rfl l1.ob ⟨_, rfl, rfl⟩ (Nat.le_of_ble_eq_true rfl) eX9_bend_94 (fun z15 e16 => ?_)
            subst e16
            refine q_blk (lv2 := [(0, vr f), (1, vi p), (2, vi k), (3, vi x), (4, vi y), (5, vr q1), (6, vi z12)]) (st2 := [vi (k + 1), vr q1, vi ((pX D p) (gm_nx (pN D p) k)), vr f]) kX9_bend_97 rfl ?_
            refine q_Vi (av := [vi (k + 1)]) (st := [vi ((pX D p) (gm_nx (pN D p) k)), vr f]) (c_X12_y1 l1 vc1 n1 n1' (k := k) (by omega) (by omega)) lk_RX9_48 (by decide) rfl rfl l1.ob ⟨_, rfl, rfl⟩ (Nat.le_of_ble_eq_true rfl) eX9_bend_102 (fun z17 e18 => ?_)
            subst e18
            refine q_blk (lv2 := [(0, vr f), (1, vi p), (2, vi k), (3, vi x), (4, vi y), (5, vr q1), (6, vi z12)]) (st2 := [vi (-1), vi (-1), vi k, vi p, vi y, vi x, vi ((pY D p) (gm_nx (pN D p) k)), vi ((pX D p) (gm_nx (pN D p) k)), vr f]) kX9_bend_105 rfl ?_
            refine q_Vi (av := [vi ((pX D p) (gm_nx (pN D p) k)), vi ((pY D p) (gm_nx (pN D p) k)), vi x, vi y, vi p, vi k, vi (-1), vi (-1)]) (st := []) (c_X9_line hF hD hX (lp := p) (l1 := k) (l2 := (-1)) (lc := (-1)) vn.1 vn.2 hx hy (gm_ncr e7 p0 p1 nr.1 nr.2) ⟨⟨by omega, by omega⟩, ⟨by omega, by omega⟩, ⟨by omega, by omega⟩, ⟨by omega, by omega⟩⟩ (Or.inl (by omega)) (gm_nst hX p0 p1 nr.1 nr.2) e5) lk_RX9_80 (by decide) rfl rfl hF.ob ⟨_, rfl, rfl⟩ (Nat.le_of_ble_eq_true rfl) eX9_bend_112 (fun z19 e20 => ?_)
            exact q_ri rfl eX9_bend_115 ⟨z19, rfl, Or.inr ⟨by omega, Or.inr ⟨by omega, Or.inr ⟨fun q9 => q9.elim e5 e7, _, e13, Or.inr ⟨by omega, e20⟩⟩⟩⟩, rfl⟩
          · skip
            refine q_blk (lv2 := [(0, vr f), (1, vi p), (2, vi k), (3, vi x), (4, vi y), (5, vr q1), (6, vi z12)]) (st2 := [vi z12]) kX9_bend_83 rfl ?_
            refine q_goto (tgt := 115) eX9_bend_85 (by decide) ?_
            exact q_ri rfl eX9_bend_115 ⟨z12, rfl, Or.inr ⟨by omega, Or.inr ⟨by omega, Or.inr ⟨fun q9 => q9.elim e5 e7, _, e13, Or.inl ⟨by omega, rfl⟩⟩⟩⟩, rfl⟩
    · skip
      refine q_blk (lv2 := [(0, vr f), (1, vi p), (2, vi k), (3, vi x), (4, vi y), (5, vr q1)]) (st2 := [vi 2]) kX9_bend_29 rfl ?_
      exact q_ri rfl eX9_bend_30 ⟨2, rfl, Or.inr ⟨by omega, Or.inl ⟨by omega, rfl⟩⟩, rfl⟩
  · skip
    refine q_blk (lv2 := [(0, vr f), (1, vi p), (2, vi k), (3, vi x), (4, vi y), (5, vr q1)]) (st2 := [vi 1]) kX9_bend_16 rfl ?_
    exact q_ri rfl eX9_bend_17 ⟨1, rfl, Or.inl ⟨by omega, rfl⟩, rfl⟩

set_option maxRecDepth 4000 in
set_option maxHeartbeats 1000000 in
theorem c_X9_takeOut {w : am_w} {h : AH} {B : Nat → Prop} {f sa pa : Nat} {gs gp : Int → Option Nat} {T : Option Nat} {D : Int → Int} (hF : FLD h B f sa pa gs gp T D) (hD : VD D) (hX : DX D) {p : Int} (p0 : 0 ≤ p) (p1 : p < D 3) {k : Int} (k0 : 0 ≤ k) (k1 : k < pN D p)  : AE w m_X9_takeOut 66 [vr f, vi p, vi k] h (am_intp h (fun z => gm_rT D p k z)) := by
  refine AE.of wf_X9_takeOut (Nat.le_of_ble_eq_true rfl) (am_ok_ip) ?_
  obtain ⟨⟨bf, bs, bp⟩, C0, ⟨fz1, C1⟩, ⟨fz2, C2⟩, hst, hsh, hij⟩ := id hF
  have d0 := hD.1
  have d1 := hD.2.1
  have d2 := hD.2.2.1
  have d3 := hD.2.2.2.1
  refine q_blk (lv2 := [(0, vr f), (1, vi p), (2, vi k)]) (st2 := [vr f]) kX9_takeOut_0 rfl ?_
  refine q_gr eX9_takeOut_1 fl_RX9_24 (Or.inr ⟨_, rfl⟩) C0 rfl ?_
  refine q_blk (lv2 := [(0, vr f), (1, vi p), (2, vi k)]) (st2 := [vi p, vr pa]) kX9_takeOut_4 rfl ?_
  obtain ⟨q1, g1, l1⟩ := hsh p (by omega) (by omega)
  obtain ⟨ca1, cf1, ⟨w1, u1⟩, c1, d1, e1⟩ := id l1
  obtain ⟨⟨o1, o1'⟩, ⟨n1, n1'⟩, cc1, xy1⟩ := hD.2.2.2.2.2 p (by omega) (by omega)
  have vc1 := hD.vc (p := p) (by omega) (by omega)
  have ar1 := gm_ar_r vc1 (by omega) n1'
  refine q_aa eX9_takeOut_5 C2 (by decide) (by omega) (by omega) g1 ?_
  refine q_blk (lv2 := [(0, vr f), (1, vi p), (2, vi k), (3, vr q1)]) (st2 := [vr q1]) kX9_takeOut_6 rfl ?_
  refine q_gr eX9_takeOut_8 fl_RX9_37 (Or.inr ⟨_, rfl⟩) c1 rfl ?_
  refine q_al eX9_takeOut_11 d1 (by decide) ?_
  refine q_blk (lv2 := [(0, vr f), (1, vi p), (2, vi k), (3, vr q1), (4, vi (pN D p))]) (st2 := [vr q1]) kX9_takeOut_12 rfl ?_
  refine q_gi eX9_takeOut_15 fl_RX9_76 (Or.inr rfl) c1 (z := (pC D p)) rfl ?_
  refine AQ.if_ne (tgt := 23) eX9_takeOut_18 (by decide) (by first | assumption | exact ⟨by omega, by omega⟩) (fun br2 => ?_) (fun br2 => ?_)
  · skip
    refine q_blk (lv2 := [(0, vr f), (1, vi p), (2, vi k), (3, vr q1), (4, vi (pN D p))]) (st2 := [vi 3, vi (pN D p)]) kX9_takeOut_23 rfl ?_
    refine AQ.ic_ne (tgt := 32) eX9_takeOut_26 (by decide) (by first | assumption | exact ⟨by omega, by omega⟩) ⟨by decide, by decide⟩ (fun br3 => ?_) (fun br3 => ?_)
    · skip
      refine q_blk (lv2 := [(0, vr f), (1, vi p), (2, vi k), (3, vr q1), (4, vi (pN D p))]) (st2 := [vi (pN D p), vi ((k + (pN D p)) - 1)]) kX9_takeOut_32 rfl ?_
      refine AQ.of (AS.irem eX9_takeOut_40 (by first | assumption | exact ⟨by omega, by omega⟩) (by first | assumption | exact ⟨by omega, by omega⟩) (by omega)) ?_
      rw [gm_mdp k0 k1]
      have pr := gm_pv_r k0 k1
      have nr := gm_nx_r k0 k1
      have vp := vc1 _ pr.1 pr.2
      have vn := vc1 _ nr.1 nr.2
      have pn : gm_pv (pN D p) k ≠ gm_nx (pN D p) k := by unfold gm_pv gm_nx; split <;> split <;> omega
      refine q_blk (lv2 := [(0, vr f), (1, vi p), (2, vi k), (3, vr q1), (4, vi (pN D p)), (5, vi (gm_pv (pN D p) k))]) (st2 := [vi (gm_pv (pN D p) k), vr q1, vr f]) kX9_takeOut_41 rfl ?_
      refine q_Vi (av := [vi (gm_pv (pN D p) k)]) (st := [vr f]) (c_X12_x0 l1 vc1 n1 n1' (k := (gm_pv (pN D p) k)) (by omega) (by omega)) lk_RX9_44 (by decide) rfl rfl l1.ob ⟨_, rfl, rfl⟩ (Nat.le_of_ble_eq_true rfl) eX9_takeOut_47 (fun z4 e5 => ?_)
      subst e5
      refine q_blk (lv2 := [(0, vr f), (1, vi p), (2, vi k), (3, vr q1), (4, vi (pN D p)), (5, vi (gm_pv (pN D p) k))]) (st2 := [vi (gm_pv (pN D p) k), vr q1, vi ((pX D p) (gm_pv (pN D p) k)), vr f]) kX9_takeOut_50 rfl ?_
      refine q_Vi (av := [vi (gm_pv (pN D p) k)]) (st := [vi ((pX D p) (gm_pv (pN D p) k)), vr f]) (c_X12_y0 l1 vc1 n1 n1' (k := (gm_pv (pN D p) k)) (by omega) (by omega)) lk_RX9_48 (by decide) rfl rfl l1.ob ⟨_, rfl, rfl⟩ (Nat.le_of_ble_eq_true rfl) eX9_takeOut_53 (fun z6 e7 => ?_)
      subst e7
      refine q_blk (lv2 := [(0, vr f), (1, vi p), (2, vi k), (3, vr q1), (4, vi (pN D p)), (5, vi (gm_pv (pN D p) k))]) (st2 := [vi (k + 1), vr q1, vi ((pY D p) (gm_pv (pN D p) k)), vi ((pX D p) (gm_pv (pN D p) k)), vr f]) kX9_takeOut_56 rfl ?_
      refine q_Vi (av := [vi (k + 1)]) (st := [vi ((pY D p) (gm_pv (pN D p) k)), vi ((pX D p) (gm_pv (pN D p) k)), vr f]) (c_X12_x1 l1 vc1 n1 n1' (k := k) (by omega) (by omega)) lk_RX9_44 (by decide) rfl rfl l1.ob ⟨_, rfl, rfl⟩ (Nat.le_of_ble_eq_true rfl) eX9_takeOut_60 (fun z8 e9 => ?_)
      subst e9
      refine q_blk (lv2 := [(0, vr f), (1, vi p), (2, vi k), (3, vr q1), (4, vi (pN D p)), (5, vi (gm_pv (pN D p) k))]) (st2 := [vi (k + 1), vr q1, vi ((pX D p) (gm_nx (pN D p) k)), vi ((pY D p) (gm_pv (pN D p) k)), vi ((pX D p) (gm_pv (pN D p) k)), vr f]) kX9_takeOut_63 rfl ?_
      refine q_Vi (av := [vi (k + 1)]) (st := [vi ((pX D p) (gm_nx (pN D p) k)), vi ((pY D p) (gm_pv (pN D p) k)), vi ((pX D p) (gm_pv (pN D p) k)), vr f]) (c_X12_y1 l1 vc1 n1 n1' (k := k) (by omega) (by omega)) lk_RX9_48 (by decide) rfl rfl l1.ob ⟨_, rfl, rfl⟩ (Nat.le_of_ble_eq_true rfl) eX9_takeOut_67 (fun z10 e11 => ?_)
      subst e11
      refine q_blk (lv2 := [(0, vr f), (1, vi p), (2, vi k), (3, vr q1), (4, vi (pN D p)), (5, vi (gm_pv (pN D p) k))]) (st2 := [vi k, vi k, vi (gm_pv (pN D p) k), vi p, vi ((pY D p) (gm_nx (pN D p) k)), vi ((pX D p) (gm_nx (pN D p) k)), vi ((pY D p) (gm_pv (pN D p) k)), vi ((pX D p) (gm_pv (pN D p) k)), vr f]) kX9_takeOut_70 rfl ?_
      refine q_Vi (av := [vi ((pX D p) (gm_pv (pN D p) k)), vi ((pY D p) (gm_pv (pN D p) k)), vi ((pX D p) (gm_nx (pN D p) k)), vi ((pY D p) (gm_nx (pN D p) k)), vi p, vi (gm_pv (pN D p) k), vi k, vi k]) (st := []) (c_X9_line hF hD hX (lp := p) (l1 := (gm_pv (pN D p) k)) (l2 := k) (lc := k) vp.1 vp.2 vn.1 vn.2 (hX.ve.ne p0 p1 pr.1 pr.2 nr.1 nr.2 pn) ⟨⟨by omega, by omega⟩, ⟨by omega, by omega⟩, ⟨by omega, by omega⟩, ⟨by omega, by omega⟩⟩ (Or.inr ⟨p0, p1, k1⟩) (gm_nst hX p0 p1 pr.1 pr.2) (gm_nst hX p0 p1 nr.1 nr.2)) lk_RX9_80 (by decide) rfl rfl hF.ob ⟨_, rfl, rfl⟩ (Nat.le_of_ble_eq_true rfl) eX9_takeOut_75 (fun z12 e13 => ?_)
      exact q_ri rfl eX9_takeOut_78 ⟨z12, rfl, Or.inr ⟨by omega, Or.inr ⟨by omega, e13⟩⟩, rfl⟩
    · skip
      refine q_blk (lv2 := [(0, vr f), (1, vi p), (2, vi k), (3, vr q1), (4, vi (pN D p))]) (st2 := [vi 6]) kX9_takeOut_29 rfl ?_
      exact q_ri rfl eX9_takeOut_31 ⟨6, rfl, Or.inr ⟨by omega, Or.inl ⟨by omega, rfl⟩⟩, rfl⟩
  · skip
    refine q_blk (lv2 := [(0, vr f), (1, vi p), (2, vi k), (3, vr q1), (4, vi (pN D p))]) (st2 := [vi 1]) kX9_takeOut_21 rfl ?_
    exact q_ri rfl eX9_takeOut_22 ⟨1, rfl, Or.inl ⟨by omega, rfl⟩, rfl⟩

set_option maxRecDepth 4000 in
set_option maxHeartbeats 1000000 in
theorem c_X9_smallest {w : am_w} {h : AH} {B : Nat → Prop} {f sa pa : Nat} {gs gp : Int → Option Nat} {T : Option Nat} {D : Int → Int} (hF : FLD h B f sa pa gs gp T D) (hD : VD D) {x y : Int} (hx : am_c x) (hy : am_c y)  : AE w m_X9_smallest 5 [vr f, vi x, vi y, vi (-1)] h (am_intp h (fun z => gm_sm2 D x y z)) := by
  refine AE.of wf_X9_smallest (Nat.le_of_ble_eq_true rfl) (am_ok_ip) ?_
  obtain ⟨⟨bf, bs, bp⟩, C0, ⟨fz1, C1⟩, ⟨fz2, C2⟩, hst, hsh, hij⟩ := id hF
  have d0 := hD.1
  have d1 := hD.2.1
  have d2 := hD.2.2.1
  have d3 := hD.2.2.2.1
  have x0 := hx.1
  have x1 := hx.2
  have y0 := hy.1
  have y1 := hy.2
  refine q_blk (lv2 := [(0, vr f), (1, vi x), (2, vi y), (3, vi (-1)), (4, vi (-1))]) (st2 := [vr f]) kX9_smallest_0 rfl ?_
  refine q_gr eX9_smallest_4 fl_RX9_24 (Or.inr ⟨_, rfl⟩) C0 rfl ?_
  refine q_al eX9_smallest_7 C2 (by decide) ?_
  refine q_blk (lv2 := [(0, vr f), (1, vi x), (2, vi y), (3, vi (-1)), (4, vi (-1)), (5, vi ((D 3) - 1))]) (st2 := []) kX9_smallest_8 rfl ?_
  refine am_lp2 (I := fun (b : Int) (i : Int) => (-1 ≤ i ∧ i < D 3) ∧ gm_sm3 D x y i b) (μ := fun (b : Int) (i : Int) => (i + 1).toNat) (G := fun (b : Int) (i : Int) => AQ w m_X9_smallest 5 12 [(0, vr f), (1, vi x), (2, vi y), (3, vi (-1)), (4, vi b), (5, vi i)] [] h (am_intp h (fun z => gm_sm2 D x y z))) ?_ (-1) ((D 3) - 1) (⟨⟨by omega, by omega⟩, Or.inl ⟨rfl, fun p p0 p1 => by omega⟩⟩)
  intro b i hI2 ih1
  obtain ⟨⟨i0, i1⟩, hs⟩ := hI2
  have br0 := gm_sm3_r hs i0
  have br1' := br0.1
  have br2' := br0.2
  refine q_blk (lv2 := [(0, vr f), (1, vi x), (2, vi y), (3, vi (-1)), (4, vi b), (5, vi i)]) (st2 := [vi i]) kX9_smallest_12 rfl ?_
  refine AQ.if_lt (tgt := 96) eX9_smallest_14 (by decide) (by first | assumption | exact ⟨by omega, by omega⟩) (fun br3 => ?_) (fun br3 => ?_)
  · skip
    refine q_blk (lv2 := [(0, vr f), (1, vi x), (2, vi y), (3, vi (-1)), (4, vi b), (5, vi i)]) (st2 := [vi b]) kX9_smallest_96 rfl ?_
    exact q_ri rfl eX9_smallest_98 ⟨b, rfl, (by unfold gm_sm2; rw [show (-1 : Int) = i by omega]; exact hs), rfl⟩
  · skip
    refine q_blk (lv2 := [(0, vr f), (1, vi x), (2, vi y), (3, vi (-1)), (4, vi b), (5, vi i)]) (st2 := [vi (-1), vi i]) kX9_smallest_17 rfl ?_
    refine AQ.of (AS.ic_eq_f eX9_smallest_20 (by first | assumption | exact ⟨by omega, by omega⟩) ⟨by decide, by decide⟩ (by omega) (by decide)) ?_
    refine q_blk (lv2 := [(0, vr f), (1, vi x), (2, vi y), (3, vi (-1)), (4, vi b), (5, vi i)]) (st2 := [vr f]) kX9_smallest_23 rfl ?_
    refine q_gr eX9_smallest_24 fl_RX9_24 (Or.inr ⟨_, rfl⟩) C0 rfl ?_
    refine q_blk (lv2 := [(0, vr f), (1, vi x), (2, vi y), (3, vi (-1)), (4, vi b), (5, vi i)]) (st2 := [vi i, vr pa]) kX9_smallest_27 rfl ?_
    obtain ⟨q4, g4, l4⟩ := hsh i (by omega) (by omega)
    obtain ⟨ca4, cf4, ⟨w4, u4⟩, c4, d4, e4⟩ := id l4
    obtain ⟨⟨o4, o4'⟩, ⟨n4, n4'⟩, cc4, xy4⟩ := hD.2.2.2.2.2 i (by omega) (by omega)
    have vc4 := hD.vc (p := i) (by omega) (by omega)
    have ar4 := gm_ar_r vc4 (by omega) n4'
    refine q_aa eX9_smallest_29 C2 (by decide) (by omega) (by omega) g4 ?_
    refine q_gi eX9_smallest_30 fl_RX9_76 (Or.inr rfl) c4 (z := (pC D i)) rfl ?_
    refine AQ.if_eq (tgt := 90) eX9_smallest_33 (by decide) (by first | assumption | exact ⟨by omega, by omega⟩) (fun br5 => ?_) (fun br5 => ?_)
    · skip
      refine q_blk (lv2 := [(0, vr f), (1, vi x), (2, vi y), (3, vi (-1)), (4, vi b), (5, vi (i + (-1)))]) (st2 := []) kX9_smallest_90 rfl ?_
      refine q_goto (tgt := 12) eX9_smallest_93 (by decide) ?_
      exact ih1 b (i + (-1)) (⟨⟨by omega, by omega⟩, gm_sm3_n hs (fun q9 => by have := q9.1; omega)⟩) (by omega)
    · skip
      refine q_blk (lv2 := [(0, vr f), (1, vi x), (2, vi y), (3, vi (-1)), (4, vi b), (5, vi i)]) (st2 := [vr f]) kX9_smallest_36 rfl ?_
      refine q_gr eX9_smallest_37 fl_RX9_24 (Or.inr ⟨_, rfl⟩) C0 rfl ?_
      refine q_blk (lv2 := [(0, vr f), (1, vi x), (2, vi y), (3, vi (-1)), (4, vi b), (5, vi i)]) (st2 := [vi i, vr pa]) kX9_smallest_40 rfl ?_
      refine q_aa eX9_smallest_42 C2 (by decide) (by omega) (by omega) g4 ?_
      refine q_blk (lv2 := [(0, vr f), (1, vi x), (2, vi y), (3, vi (-1)), (4, vi b), (5, vi i)]) (st2 := [vi y, vi x, vr q4]) kX9_smallest_43 rfl ?_
      refine q_Vi (av := [vi x, vi y]) (st := []) (c_X12_where l4 vc4 n4 n4' (by omega) hx hy) lk_RX9_84 (by decide) rfl rfl l4.ob ⟨_, rfl, rfl⟩ (Nat.le_of_ble_eq_true rfl) eX9_smallest_45 (fun z6 e7 => ?_)
      have wh := e7
      have wr := gm_si_r wh
      refine q_blk (lv2 := [(0, vr f), (1, vi x), (2, vi y), (3, vi (-1)), (4, vi b), (5, vi i)]) (st2 := [vi 2, vi z6]) kX9_smallest_48 rfl ?_
      refine AQ.ic_ne (tgt := 90) eX9_smallest_49 (by decide) (by first | assumption | exact ⟨by omega, by omega⟩) ⟨by decide, by decide⟩ (fun br8 => ?_) (fun br8 => ?_)
      · skip
        refine q_blk (lv2 := [(0, vr f), (1, vi x), (2, vi y), (3, vi (-1)), (4, vi b), (5, vi (i + (-1)))]) (st2 := []) kX9_smallest_90 rfl ?_
        refine q_goto (tgt := 12) eX9_smallest_93 (by decide) ?_
        exact ih1 b (i + (-1)) (⟨⟨by omega, by omega⟩, gm_sm3_n hs (fun q9 => by have := (gm_si_in wh).mpr q9.2; omega)⟩) (by omega)
      · skip
        refine q_blk (lv2 := [(0, vr f), (1, vi x), (2, vi y), (3, vi (-1)), (4, vi b), (5, vi i)]) (st2 := [vi b]) kX9_smallest_52 rfl ?_
        refine AQ.if_lt (tgt := 86) eX9_smallest_54 (by decide) (by first | assumption | exact ⟨by omega, by omega⟩) (fun br9 => ?_) (fun br9 => ?_)
        · skip
          refine q_blk (lv2 := [(0, vr f), (1, vi x), (2, vi y), (3, vi (-1)), (4, vi i), (5, vi i)]) (st2 := []) kX9_smallest_86 rfl ?_
          refine q_blk (lv2 := [(0, vr f), (1, vi x), (2, vi y), (3, vi (-1)), (4, vi i), (5, vi (i + (-1)))]) (st2 := []) kX9_smallest_90 rfl ?_
          refine q_goto (tgt := 12) eX9_smallest_93 (by decide) ?_
          exact ih1 i (i + (-1)) (⟨⟨by omega, by omega⟩, gm_sm3_t hs (by omega) (by omega) ⟨by omega, (gm_si_in wh).mp (by omega)⟩ (by first | exact Or.inl (by omega) | exact Or.inr (by omega))⟩) (by omega)
        · skip
          refine q_blk (lv2 := [(0, vr f), (1, vi x), (2, vi y), (3, vi (-1)), (4, vi b), (5, vi i)]) (st2 := [vr f]) kX9_smallest_57 rfl ?_
          refine q_gr eX9_smallest_58 fl_RX9_24 (Or.inr ⟨_, rfl⟩) C0 rfl ?_
          refine q_blk (lv2 := [(0, vr f), (1, vi x), (2, vi y), (3, vi (-1)), (4, vi b), (5, vi i)]) (st2 := [vi i, vr pa]) kX9_smallest_61 rfl ?_
          refine q_aa eX9_smallest_63 C2 (by decide) (by omega) (by omega) g4 ?_
          refine q_Vi (av := []) (st := []) (c_X12_doubled l4 vc4 n4 n4') lk_RX9_87 (by decide) rfl rfl l4.ob ⟨_, rfl, rfl⟩ (Nat.le_of_ble_eq_true rfl) eX9_smallest_64 (fun z10 e11 => ?_)
          subst e11
          refine AQ.of (AS.mabs eX9_smallest_67 (by first | assumption | exact ⟨by omega, by omega⟩) (am_gw 606 (by decide +kernel) (by decide +kernel)) (am_gw 372 (by decide +kernel) (by decide +kernel)) (am_gw 53 (by decide +kernel) (by decide +kernel)) (am_gw 373 (by decide +kernel) (by decide +kernel)) (by decide) (Nat.le_of_ble_eq_true rfl)) ?_
          obtain ⟨z12, e13⟩ : ∃ q : Int, q = (if 0 ≤ (gm_ar (pN D i) (pX D i) (pY D i)) then (gm_ar (pN D i) (pX D i) (pY D i)) else -(gm_ar (pN D i) (pX D i) (pY D i))) := ⟨_, rfl⟩
          rw [← e13]
          have wa1 : z12 = gm_arD D i := e13
          have ra1 : 0 ≤ z12 ∧ z12 ≤ 10800 := by rw [wa1]; exact gm_abs_r (gm_ar_r vc4 (by omega) (by omega))
          refine q_blk (lv2 := [(0, vr f), (1, vi x), (2, vi y), (3, vi (-1)), (4, vi b), (5, vi i)]) (st2 := [vr f, vi z12]) kX9_smallest_70 rfl ?_
          refine q_gr eX9_smallest_71 fl_RX9_24 (Or.inr ⟨_, rfl⟩) C0 rfl ?_
          refine q_blk (lv2 := [(0, vr f), (1, vi x), (2, vi y), (3, vi (-1)), (4, vi b), (5, vi i)]) (st2 := [vi b, vr pa, vi z12]) kX9_smallest_74 rfl ?_
          obtain ⟨q14, g14, l14⟩ := hsh b (by omega) (by omega)
          obtain ⟨ca14, cf14, ⟨w14, u14⟩, c14, d14, e14⟩ := id l14
          obtain ⟨⟨o14, o14'⟩, ⟨n14, n14'⟩, cc14, xy14⟩ := hD.2.2.2.2.2 b (by omega) (by omega)
          have vc14 := hD.vc (p := b) (by omega) (by omega)
          have ar14 := gm_ar_r vc14 (by omega) n14'
          refine q_aa eX9_smallest_76 C2 (by decide) (by omega) (by omega) g14 ?_
          refine q_Vi (av := []) (st := [vi z12]) (c_X12_doubled l14 vc14 n14 n14') lk_RX9_87 (by decide) rfl rfl l14.ob ⟨_, rfl, rfl⟩ (Nat.le_of_ble_eq_true rfl) eX9_smallest_77 (fun z15 e16 => ?_)
          subst e16
          refine AQ.of (AS.mabs eX9_smallest_80 (by first | assumption | exact ⟨by omega, by omega⟩) (am_gw 606 (by decide +kernel) (by decide +kernel)) (am_gw 372 (by decide +kernel) (by decide +kernel)) (am_gw 53 (by decide +kernel) (by decide +kernel)) (am_gw 373 (by decide +kernel) (by decide +kernel)) (by decide) (Nat.le_of_ble_eq_true rfl)) ?_
          obtain ⟨z17, e18⟩ : ∃ q : Int, q = (if 0 ≤ (gm_ar (pN D b) (pX D b) (pY D b)) then (gm_ar (pN D b) (pX D b) (pY D b)) else -(gm_ar (pN D b) (pX D b) (pY D b))) := ⟨_, rfl⟩
          rw [← e18]
          have wa2 : z17 = gm_arD D b := e18
          have ra2 : 0 ≤ z17 ∧ z17 ≤ 10800 := by rw [wa2]; exact gm_abs_r (gm_ar_r vc14 (by omega) (by omega))
          refine AQ.ic_ge (tgt := 90) eX9_smallest_83 (by decide) (by first | assumption | exact ⟨by omega, by omega⟩) (by first | assumption | exact ⟨by omega, by omega⟩) (fun br19 => ?_) (fun br19 => ?_)
          · skip
            refine q_blk (lv2 := [(0, vr f), (1, vi x), (2, vi y), (3, vi (-1)), (4, vi b), (5, vi (i + (-1)))]) (st2 := []) kX9_smallest_90 rfl ?_
            refine q_goto (tgt := 12) eX9_smallest_93 (by decide) ?_
            exact ih1 b (i + (-1)) (⟨⟨by omega, by omega⟩, gm_sm3_k hs (by omega) (by omega)⟩) (by omega)
          · skip
            refine q_blk (lv2 := [(0, vr f), (1, vi x), (2, vi y), (3, vi (-1)), (4, vi i), (5, vi i)]) (st2 := []) kX9_smallest_86 rfl ?_
            refine q_blk (lv2 := [(0, vr f), (1, vi x), (2, vi y), (3, vi (-1)), (4, vi i), (5, vi (i + (-1)))]) (st2 := []) kX9_smallest_90 rfl ?_
            refine q_goto (tgt := 12) eX9_smallest_93 (by decide) ?_
            exact ih1 i (i + (-1)) (⟨⟨by omega, by omega⟩, gm_sm3_t hs (by omega) (by omega) ⟨by omega, (gm_si_in wh).mp (by omega)⟩ (by first | exact Or.inl (by omega) | exact Or.inr (by omega))⟩) (by omega)

set_option maxRecDepth 4000 in
set_option maxHeartbeats 1000000 in
theorem c_X9_claimer {w : am_w} {h : AH} {B : Nat → Prop} {f sa pa : Nat} {gs gp : Int → Option Nat} {T : Option Nat} {D : Int → Int} (hF : FLD h B f sa pa gs gp T D) (hD : VD D) {cm : Int → Int} (hU : UQ D cm) {k : Int} (k0 : 0 ≤ k) (k1 : k < D 2)  : AE w m_X9_claimer 6 [vr f, vi k] h (am_intp h (fun z => z = cm k)) := by
  refine AE.of wf_X9_claimer (Nat.le_of_ble_eq_true rfl) (am_ok_ip) ?_
  obtain ⟨⟨bf, bs, bp⟩, C0, ⟨fz1, C1⟩, ⟨fz2, C2⟩, hst, hsh, hij⟩ := id hF
  have d0 := hD.1
  have d1 := hD.2.1
  have d2 := hD.2.2.1
  have d3 := hD.2.2.2.1
  refine q_blk (lv2 := [(0, vr f), (1, vi k)]) (st2 := [vr f, vr f]) kX9_claimer_0 rfl ?_
  refine q_gr eX9_claimer_2 fl_RX9_18 (Or.inr ⟨_, rfl⟩) C0 rfl ?_
  refine q_blk (lv2 := [(0, vr f), (1, vi k)]) (st2 := [vi k, vr sa, vr f]) kX9_claimer_5 rfl ?_
  obtain ⟨q1, f1, g1, w1, c1, x1, y1, v1⟩ := hst k (by omega) (by omega)
  have b1 := hD.2.2.2.2.1 k (by omega) (by omega)
  refine q_aa eX9_claimer_6 C1 (by decide) (by omega) (by omega) g1 ?_
  refine q_blk (lv2 := [(0, vr f), (1, vi k)]) (st2 := [vi 0, vr q1, vr f]) kX9_claimer_7 rfl ?_
  refine q_ia eX9_claimer_8 c1 (by decide) (by omega) (by omega) (z := (sX D k)) x1 ?_
  refine q_blk (lv2 := [(0, vr f), (1, vi k)]) (st2 := [vr f, vi (sX D k), vr f]) kX9_claimer_9 rfl ?_
  refine q_gr eX9_claimer_10 fl_RX9_18 (Or.inr ⟨_, rfl⟩) C0 rfl ?_
  refine q_blk (lv2 := [(0, vr f), (1, vi k)]) (st2 := [vi k, vr sa, vi (sX D k), vr f]) kX9_claimer_13 rfl ?_
  refine q_aa eX9_claimer_14 C1 (by decide) (by omega) (by omega) g1 ?_
  refine q_blk (lv2 := [(0, vr f), (1, vi k)]) (st2 := [vi 1, vr q1, vi (sX D k), vr f]) kX9_claimer_15 rfl ?_
  refine q_ia eX9_claimer_16 c1 (by decide) (by omega) (by omega) (z := (sY D k)) y1 ?_
  refine q_blk (lv2 := [(0, vr f), (1, vi k)]) (st2 := [vi (-1), vi (sY D k), vi (sX D k), vr f]) kX9_claimer_17 rfl ?_
  refine q_Vi (av := [vi (sX D k), vi (sY D k), vi (-1)]) (st := []) (c_X9_smallest hF hD (x := (sX D k)) (y := (sY D k)) (by unfold am_c; omega) (by unfold am_c; omega)) lk_RX9_93 (by decide) rfl rfl hF.ob ⟨_, rfl, rfl⟩ (Nat.le_of_ble_eq_true rfl) eX9_claimer_18 (fun z2 e3 => ?_)
  exact q_ri rfl eX9_claimer_21 ⟨z2, rfl, (hU k _ k0 k1 e3), rfl⟩

set_option maxRecDepth 4000 in
set_option maxHeartbeats 1000000 in
theorem c_X9_claimedN {w : am_w} {h : AH} {B : Nat → Prop} {f sa pa : Nat} {gs gp : Int → Option Nat} {T : Option Nat} {D : Int → Int} (hF : FLD h B f sa pa gs gp T D) (hD : VD D) {cm : Int → Int} (hU : UQ D cm) (hcr : ∀ k, 0 ≤ k → k < D 2 → -1 ≤ cm k ∧ cm k < 6)  : AE w m_X9_claimed 7 [vr f, vi (-1)] h (am_intp h (fun z => z = gm_sm (gm_nf cm) (D 2).toNat)) := by
  refine AE.of wf_X9_claimed (Nat.le_of_ble_eq_true rfl) (am_ok_ip) ?_
  obtain ⟨⟨bf, bs, bp⟩, C0, ⟨fz1, C1⟩, ⟨fz2, C2⟩, hst, hsh, hij⟩ := id hF
  have d0 := hD.1
  have d1 := hD.2.1
  have d2 := hD.2.2.1
  have d3 := hD.2.2.2.1
  refine q_blk (lv2 := [(0, vr f), (1, vi (-1)), (2, vi 0), (3, vi 0)]) (st2 := []) kX9_claimed_0 rfl ?_
  refine am_lp2 (I := fun (s : Int) (k : Int) => (0 ≤ k ∧ k ≤ D 2) ∧ s = gm_sm (gm_nf cm) k.toNat) (μ := fun (s : Int) (k : Int) => (D 2 - k).toNat) (G := fun (s : Int) (k : Int) => AQ w m_X9_claimed 7 4 [(0, vr f), (1, vi (-1)), (2, vi s), (3, vi k)] [] h (am_intp h (fun z => z = gm_sm (gm_nf cm) (D 2).toNat))) ?_ 0 0 (⟨⟨by omega, by omega⟩, rfl⟩)
  intro s k hI2 ih1
  obtain ⟨⟨k0, k1⟩, hs⟩ := hI2
  refine q_blk (lv2 := [(0, vr f), (1, vi (-1)), (2, vi s), (3, vi k)]) (st2 := [vr f, vi k]) kX9_claimed_4 rfl ?_
  refine q_gr eX9_claimed_6 fl_RX9_18 (Or.inr ⟨_, rfl⟩) C0 rfl ?_
  refine q_al eX9_claimed_9 C1 (by decide) ?_
  refine AQ.ic_ge (tgt := 46) eX9_claimed_10 (by decide) (by first | assumption | exact ⟨by omega, by omega⟩) (by first | assumption | exact ⟨by omega, by omega⟩) (fun br3 => ?_) (fun br3 => ?_)
  · skip
    refine q_blk (lv2 := [(0, vr f), (1, vi (-1)), (2, vi s), (3, vi k)]) (st2 := [vi s]) kX9_claimed_46 rfl ?_
    exact q_ri rfl eX9_claimed_47 ⟨s, rfl, (by rw [hs, show k = D 2 by omega]), rfl⟩
  · skip
    have ck := hcr k k0 (by omega)
    refine q_blk (lv2 := [(0, vr f), (1, vi (-1)), (2, vi s), (3, vi k)]) (st2 := [vi (-1)]) kX9_claimed_13 rfl ?_
    refine AQ.of (AS.if_ge_f eX9_claimed_14 ⟨by decide, by decide⟩ (by decide) (by decide)) ?_
    refine q_blk (lv2 := [(0, vr f), (1, vi (-1)), (2, vi s), (3, vi k)]) (st2 := [vi k, vr f]) kX9_claimed_17 rfl ?_
    refine q_Vi (av := [vi k]) (st := []) (c_X9_claimer hF hD hU (k := k) (by omega) (by omega)) lk_RX9_97 (by decide) rfl rfl hF.ob ⟨_, rfl, rfl⟩ (Nat.le_of_ble_eq_true rfl) eX9_claimed_19 (fun z4 e5 => ?_)
    subst e5
    refine AQ.if_lt (tgt := 40) eX9_claimed_22 (by decide) (by first | assumption | exact ⟨by omega, by omega⟩) (fun br6 => ?_) (fun br6 => ?_)
    · skip
      refine q_blk (lv2 := [(0, vr f), (1, vi (-1)), (2, vi s), (3, vi (k + 1))]) (st2 := []) kX9_claimed_40 rfl ?_
      refine q_goto (tgt := 4) eX9_claimed_43 (by decide) ?_
      exact ih1 s (k + 1) (⟨⟨by omega, by omega⟩, by rw [gm_sm_s _ k0, ← hs]; unfold gm_nf; split <;> (try dsimp only) <;> omega⟩) (by omega)
    · skip
      refine q_goto (tgt := 37) eX9_claimed_25 (by decide) ?_
      refine q_blk (lv2 := [(0, vr f), (1, vi (-1)), (2, vi (s + 1)), (3, vi k)]) (st2 := []) kX9_claimed_37 rfl ?_
      refine q_blk (lv2 := [(0, vr f), (1, vi (-1)), (2, vi (s + 1)), (3, vi (k + 1))]) (st2 := []) kX9_claimed_40 rfl ?_
      refine q_goto (tgt := 4) eX9_claimed_43 (by decide) ?_
      exact ih1 (s + 1) (k + 1) (⟨⟨by omega, by omega⟩, by rw [gm_sm_s _ k0, ← hs]; unfold gm_nf; split <;> (try dsimp only) <;> omega⟩) (by omega)

set_option maxRecDepth 4000 in
set_option maxHeartbeats 1000000 in
theorem c_X9_claimedP {w : am_w} {h : AH} {B : Nat → Prop} {f sa pa : Nat} {gs gp : Int → Option Nat} {T : Option Nat} {D : Int → Int} (hF : FLD h B f sa pa gs gp T D) (hD : VD D) {cm : Int → Int} (hU : UQ D cm) (hcr : ∀ k, 0 ≤ k → k < D 2 → -1 ≤ cm k ∧ cm k < 6) {p : Int} (p0 : 0 ≤ p) (p1 : p < 6)  : AE w m_X9_claimed 7 [vr f, vi p] h (am_intp h (fun z => z = gm_sm (gm_if cm p (fun _ => 1)) (D 2).toNat)) := by
  refine AE.of wf_X9_claimed (Nat.le_of_ble_eq_true rfl) (am_ok_ip) ?_
  obtain ⟨⟨bf, bs, bp⟩, C0, ⟨fz1, C1⟩, ⟨fz2, C2⟩, hst, hsh, hij⟩ := id hF
  have d0 := hD.1
  have d1 := hD.2.1
  have d2 := hD.2.2.1
  have d3 := hD.2.2.2.1
  refine q_blk (lv2 := [(0, vr f), (1, vi p), (2, vi 0), (3, vi 0)]) (st2 := []) kX9_claimed_0 rfl ?_
  refine am_lp2 (I := fun (s : Int) (k : Int) => (0 ≤ k ∧ k ≤ D 2) ∧ s = gm_sm (gm_if cm p (fun _ => 1)) k.toNat) (μ := fun (s : Int) (k : Int) => (D 2 - k).toNat) (G := fun (s : Int) (k : Int) => AQ w m_X9_claimed 7 4 [(0, vr f), (1, vi p), (2, vi s), (3, vi k)] [] h (am_intp h (fun z => z = gm_sm (gm_if cm p (fun _ => 1)) (D 2).toNat))) ?_ 0 0 (⟨⟨by omega, by omega⟩, rfl⟩)
  intro s k hI2 ih1
  obtain ⟨⟨k0, k1⟩, hs⟩ := hI2
  refine q_blk (lv2 := [(0, vr f), (1, vi p), (2, vi s), (3, vi k)]) (st2 := [vr f, vi k]) kX9_claimed_4 rfl ?_
  refine q_gr eX9_claimed_6 fl_RX9_18 (Or.inr ⟨_, rfl⟩) C0 rfl ?_
  refine q_al eX9_claimed_9 C1 (by decide) ?_
  refine AQ.ic_ge (tgt := 46) eX9_claimed_10 (by decide) (by first | assumption | exact ⟨by omega, by omega⟩) (by first | assumption | exact ⟨by omega, by omega⟩) (fun br3 => ?_) (fun br3 => ?_)
  · skip
    refine q_blk (lv2 := [(0, vr f), (1, vi p), (2, vi s), (3, vi k)]) (st2 := [vi s]) kX9_claimed_46 rfl ?_
    exact q_ri rfl eX9_claimed_47 ⟨s, rfl, (by rw [hs, show k = D 2 by omega]), rfl⟩
  · skip
    have ck := hcr k k0 (by omega)
    refine q_blk (lv2 := [(0, vr f), (1, vi p), (2, vi s), (3, vi k)]) (st2 := [vi p]) kX9_claimed_13 rfl ?_
    refine AQ.of (AS.if_ge_t (tgt := 28) eX9_claimed_14 (by decide) (by first | assumption | exact ⟨by omega, by omega⟩) (by omega)) ?_
    refine q_blk (lv2 := [(0, vr f), (1, vi p), (2, vi s), (3, vi k)]) (st2 := [vi k, vr f]) kX9_claimed_28 rfl ?_
    refine q_Vi (av := [vi k]) (st := []) (c_X9_claimer hF hD hU (k := k) (by omega) (by omega)) lk_RX9_97 (by decide) rfl rfl hF.ob ⟨_, rfl, rfl⟩ (Nat.le_of_ble_eq_true rfl) eX9_claimed_30 (fun z4 e5 => ?_)
    subst e5
    refine q_blk (lv2 := [(0, vr f), (1, vi p), (2, vi s), (3, vi k)]) (st2 := [vi p, vi (cm k)]) kX9_claimed_33 rfl ?_
    refine AQ.ic_ne (tgt := 40) eX9_claimed_34 (by decide) (by first | assumption | exact ⟨by omega, by omega⟩) (by first | assumption | exact ⟨by omega, by omega⟩) (fun br6 => ?_) (fun br6 => ?_)
    · skip
      refine q_blk (lv2 := [(0, vr f), (1, vi p), (2, vi s), (3, vi (k + 1))]) (st2 := []) kX9_claimed_40 rfl ?_
      refine q_goto (tgt := 4) eX9_claimed_43 (by decide) ?_
      exact ih1 s (k + 1) (⟨⟨by omega, by omega⟩, by rw [gm_sm_s _ k0, ← hs]; unfold gm_if; split <;> (try dsimp only) <;> omega⟩) (by omega)
    · skip
      refine q_blk (lv2 := [(0, vr f), (1, vi p), (2, vi (s + 1)), (3, vi k)]) (st2 := []) kX9_claimed_37 rfl ?_
      refine q_blk (lv2 := [(0, vr f), (1, vi p), (2, vi (s + 1)), (3, vi (k + 1))]) (st2 := []) kX9_claimed_40 rfl ?_
      refine q_goto (tgt := 4) eX9_claimed_43 (by decide) ?_
      exact ih1 (s + 1) (k + 1) (⟨⟨by omega, by omega⟩, by rw [gm_sm_s _ k0, ← hs]; unfold gm_if; split <;> (try dsimp only) <;> omega⟩) (by omega)
