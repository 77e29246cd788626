/-! CornerClaimsModel: points counted; dents; claims. -/
theorem gm_c1_r (D : Int → Int) (p s x y : Int) : 0 ≤ gm_c1 D p s x y ∧ gm_c1 D p s x y ≤ 1 := by
  unfold gm_c1
  by_cases c : gm_si s (pN D p) (pX D p) (pY D p) x y
  · rw [gm_ite_t c]; omega
  · rw [gm_ite_f c]; omega
theorem gm_smb_cl {D : Int → Int} {x y but : Int} : ∀ {m : Nat} {z : Int}, gm_smb D x y but m z → z = -1 ∨ (0 ≤ z ∧ z < m)
  | 0, z, h => Or.inl h
  | m + 1, z, ⟨b, h1, h2⟩ => by
    rcases h2 with ⟨q, w, e⟩ | ⟨q, e⟩
    · exact Or.inr ⟨by omega, by omega⟩
    · have := gm_smb_cl h1
      omega

set_option maxHeartbeats 1000000 in
theorem c_X9_countAll {w : am_w} {h : AH} {n : Nat} {th bl tl ps er ea eo ud g0 g1 g2 g3 ns ne se : Int} {D : Int → Int} (hm : MM h n th bl tl ps er ea eo ud g0 g1 g2 g3 ns ne se D) (hD : VD D) {p : Int} (p0 : 0 ≤ p) (p1 : p < D 3) {sd : Int} (r_sd : am_r sd)  : AE w m_X9_countAll 5 [vr n, vi p, vi sd] h (am_intp h (fun z => z = gm_ca D p sd ∧ 0 ≤ z ∧ z ≤ 961)) := by
  refine AE.of wf_X9_countAll (Nat.le_of_ble_eq_true rfl) (am_ok_ip) ?_
  obtain ⟨m0, m1⟩ := id hm
  have d0 := hD.1
  have d1 := hD.2.1
  have d2 := hD.2.2.1
  have d3 := hD.2.2.2.1
  have hn := hD.n p0 p1
  have hcl := hD.cl p0 p1
  refine q_blk (lv2 := [(0, vr n), (1, vi p), (2, vi sd), (3, vi 0), (4, vi 0)]) (st2 := []) kX9_countAll_0 rfl ?_
  refine am_lp2 (I := fun (c : Int) (x : Int) => (0 ≤ x ∧ x ≤ D 0 + 1) ∧ c = gm_sm (fun x => gm_sm (gm_c1 D p sd x) (D 1 + 1).toNat) x.toNat ∧ (0 ≤ c ∧ c ≤ 31 * x)) (μ := fun (c : Int) (x : Int) => (D 0 + 1 - x).toNat) (G := fun (c : Int) (x : Int) => AQ w m_X9_countAll 5 5 [(0, vr n), (1, vi p), (2, vi sd), (3, vi c), (4, vi x)] [] h (am_intp h (fun z => z = gm_ca D p sd ∧ 0 ≤ z ∧ z ≤ 961))) ?_ 0 0 (⟨⟨by omega, by omega⟩, rfl, by omega⟩)
  intro c x hI2 ih1
  obtain ⟨⟨x0, x1⟩, hcx, hr⟩ := hI2
  refine q_blk (lv2 := [(0, vr n), (1, vi p), (2, vi sd), (3, vi c), (4, vi x)]) (st2 := [vr n, vi x]) kX9_countAll_5 rfl ?_
  refine q_gr eX9_countAll_8 fl_RX9_17 (Or.inr ⟨_, rfl⟩) m0 rfl ?_
  refine q_blk (lv2 := [(0, vr n), (1, vi p), (2, vi sd), (3, vi c), (4, vi x)]) (st2 := [vi 0, vr (n + 2), vi x]) kX9_countAll_11 rfl ?_
  refine q_ia eX9_countAll_12 m1 (by decide) (by omega) (by omega) (z := (D 0)) rfl ?_
  refine AQ.ic_gt (tgt := 63) eX9_countAll_13 (by decide) (by first | assumption | exact ⟨by omega, by omega⟩) (by first | assumption | exact ⟨by omega, by omega⟩) (fun br3 => ?_) (fun br3 => ?_)
  · skip
    refine q_blk (lv2 := [(0, vr n), (1, vi p), (2, vi sd), (3, vi c), (4, vi x)]) (st2 := [vi c]) kX9_countAll_63 rfl ?_
    exact q_ri rfl eX9_countAll_64 ⟨c, rfl, ⟨by rw [hcx, show x = D 0 + 1 by omega]; rfl, by omega, by omega⟩, rfl⟩
  · skip
    refine q_blk (lv2 := [(0, vr n), (1, vi p), (2, vi sd), (3, vi c), (4, vi x), (5, vi 0)]) (st2 := []) kX9_countAll_16 rfl ?_
    refine am_lp2 (I := fun (c2 : Int) (y : Int) => (0 ≤ y ∧ y ≤ D 1 + 1) ∧ c2 = c + gm_sm (gm_c1 D p sd x) y.toNat ∧ (0 ≤ c2 ∧ c2 ≤ 31 * x + y)) (μ := fun (c2 : Int) (y : Int) => (D 1 + 1 - y).toNat) (G := fun (c2 : Int) (y : Int) => AQ w m_X9_countAll 5 19 [(0, vr n), (1, vi p), (2, vi sd), (3, vi c2), (4, vi x), (5, vi y)] [] h (am_intp h (fun z => z = gm_ca D p sd ∧ 0 ≤ z ∧ z ≤ 961))) ?_ c 0 (⟨⟨by omega, by omega⟩, by rw [gm_sm_0]; omega, by omega⟩)
    intro c2 y hI5 ih4
    obtain ⟨⟨y0, y1⟩, hc, hr2⟩ := hI5
    refine q_blk (lv2 := [(0, vr n), (1, vi p), (2, vi sd), (3, vi c2), (4, vi x), (5, vi y)]) (st2 := [vr n, vi y]) kX9_countAll_19 rfl ?_
    refine q_gr eX9_countAll_22 fl_RX9_17 (Or.inr ⟨_, rfl⟩) m0 rfl ?_
    refine q_blk (lv2 := [(0, vr n), (1, vi p), (2, vi sd), (3, vi c2), (4, vi x), (5, vi y)]) (st2 := [vi 1, vr (n + 2), vi y]) kX9_countAll_25 rfl ?_
    refine q_ia eX9_countAll_26 m1 (by decide) (by omega) (by omega) (z := (D 1)) rfl ?_
    refine AQ.ic_gt (tgt := 57) eX9_countAll_27 (by decide) (by first | assumption | exact ⟨by omega, by omega⟩) (by first | assumption | exact ⟨by omega, by omega⟩) (fun br6 => ?_) (fun br6 => ?_)
    · skip
      refine q_blk (lv2 := [(0, vr n), (1, vi p), (2, vi sd), (3, vi c2), (4, vi (x + 1)), (5, vi y)]) (st2 := []) kX9_countAll_57 rfl ?_
      refine q_goto (tgt := 5) eX9_countAll_60 (by decide) ?_
      refine q_sub (lv2 := [(0, vr n), (1, vi p), (2, vi sd), (3, vi c2), (4, vi (x + 1))]) [0, 1, 2, 3, 4] rfl ?_
      exact ih1 c2 (x + 1) (⟨⟨by omega, by omega⟩, by rw [gm_sm_s _ x0, ← hcx, hc, show y = D 1 + 1 by omega], by omega⟩) (by omega)
    · skip
      refine q_blk (lv2 := [(0, vr n), (1, vi p), (2, vi sd), (3, vi c2), (4, vi x), (5, vi y)]) (st2 := [vi y, vi x, vi p, vr n, vi c2]) kX9_countAll_30 rfl ?_
      refine q_Vi (av := [vi p, vi x, vi y]) (st := [vi c2]) (c_X9_sideOf hm hD (by omega) (by omega) (x := x) (y := y) (by first | assumption | exact ⟨by omega, by omega⟩) (by first | assumption | exact ⟨by omega, by omega⟩)) lk_RX9_261 (by decide) rfl rfl hm.ob ⟨_, rfl, rfl⟩ (Nat.le_of_ble_eq_true rfl) eX9_countAll_37 (fun z7 e8 => ?_)
      have si9 := gm_si_r e8
      refine q_blk (lv2 := [(0, vr n), (1, vi p), (2, vi sd), (3, vi c2), (4, vi x), (5, vi y)]) (st2 := [vi sd, vi z7, vi c2]) kX9_countAll_40 rfl ?_
      refine AQ.ic_ne (tgt := 48) eX9_countAll_41 (by decide) (by first | assumption | exact ⟨by omega, by omega⟩) (by first | assumption | exact ⟨by omega, by omega⟩) (fun br9 => ?_) (fun br9 => ?_)
      · skip
        refine q_blk (lv2 := [(0, vr n), (1, vi p), (2, vi sd), (3, vi c2), (4, vi x), (5, vi y)]) (st2 := [vi 0, vi c2]) kX9_countAll_48 rfl ?_
        refine q_blk (lv2 := [(0, vr n), (1, vi p), (2, vi sd), (3, vi (c2 + 0)), (4, vi x), (5, vi (y + 1))]) (st2 := []) kX9_countAll_49 rfl ?_
        refine q_goto (tgt := 19) eX9_countAll_54 (by decide) ?_
        exact ih4 (c2 + 0) (y + 1) (⟨⟨by omega, by omega⟩, by rw [gm_sm_s _ y0, ← Int.add_assoc, ← hc]; unfold gm_c1; rw [gm_ite_f (fun q => by have := gm_si_one q e8; omega)], by omega⟩) (by omega)
      · skip
        refine q_blk (lv2 := [(0, vr n), (1, vi p), (2, vi sd), (3, vi c2), (4, vi x), (5, vi y)]) (st2 := [vi 1, vi c2]) kX9_countAll_44 rfl ?_
        refine q_goto (tgt := 49) eX9_countAll_45 (by decide) ?_
        refine q_blk (lv2 := [(0, vr n), (1, vi p), (2, vi sd), (3, vi (c2 + 1)), (4, vi x), (5, vi (y + 1))]) (st2 := []) kX9_countAll_49 rfl ?_
        refine q_goto (tgt := 19) eX9_countAll_54 (by decide) ?_
        exact ih4 (c2 + 1) (y + 1) (⟨⟨by omega, by omega⟩, by rw [gm_sm_s _ y0, ← Int.add_assoc, ← hc]; unfold gm_c1; rw [gm_ite_t (by rw [show sd = z7 by omega]; exact e8)], by omega⟩) (by omega)

set_option maxHeartbeats 1000000 in
theorem c_X9_dentsOf {w : am_w} {h : AH} {n : Nat} {th bl tl ps er ea eo ud g0 g1 g2 g3 ns ne se : Int} {D : Int → Int} (hm : MM h n th bl tl ps er ea eo ud g0 g1 g2 g3 ns ne se D) (hD : VD D) {p : Int} (p0 : 0 ≤ p) (p1 : p < D 3)  : AE w m_X9_dentsOf 5 [vr n, vi p] h (am_intp h (fun z => z = gm_de (pN D p) (pX D p) (pY D p) ∧ 0 ≤ z ∧ z ≤ 12)) := by
  refine AE.of wf_X9_dentsOf (Nat.le_of_ble_eq_true rfl) (am_ok_ip) ?_
  obtain ⟨m0, m1⟩ := id hm
  have d0 := hD.1
  have d1 := hD.2.1
  have d2 := hD.2.2.1
  have d3 := hD.2.2.2.1
  have hn := hD.n p0 p1
  have hcl := hD.cl p0 p1
  refine q_blk (lv2 := [(0, vr n), (1, vi p), (2, vi 0)]) (st2 := [vi p, vr n]) kX9_dentsOf_0 rfl ?_
  refine q_Vi (av := [vi p]) (st := []) (c_X9_doubled hm hD (by omega) (by omega)) lk_RX9_258 (by decide) rfl rfl hm.ob ⟨_, rfl, rfl⟩ (Nat.le_of_ble_eq_true rfl) eX9_dentsOf_4 (fun z1 e2 => ?_)
  have db9 := e2.2
  have da9 := e2.1
  refine AQ.if_le (tgt := 14) eX9_dentsOf_7 (by decide) (by first | assumption | exact ⟨by omega, by omega⟩) (fun br3 => ?_) (fun br3 => ?_)
  · skip
    refine q_blk (lv2 := [(0, vr n), (1, vi p), (2, vi 0)]) (st2 := [vi 0]) kX9_dentsOf_14 rfl ?_
    refine q_blk (lv2 := [(0, vr n), (1, vi p), (2, vi 0), (3, vi 0), (4, vi 0)]) (st2 := []) kX9_dentsOf_15 rfl ?_
    refine am_lp2 (I := fun (s : Int) (k : Int) => (0 ≤ k ∧ k ≤ pN D p) ∧ s = gm_sm (gm_de1 (pN D p) (pX D p) (pY D p)) k.toNat ∧ (0 ≤ s ∧ s ≤ k)) (μ := fun (s : Int) (k : Int) => (pN D p - k).toNat) (G := fun (s : Int) (k : Int) => AQ w m_X9_dentsOf 5 19 [(0, vr n), (1, vi p), (2, vi s), (3, vi 0), (4, vi k)] [] h (am_intp h (fun z => z = gm_de (pN D p) (pX D p) (pY D p) ∧ 0 ≤ z ∧ z ≤ 12))) ?_ 0 0 (⟨⟨by omega, by omega⟩, rfl, by omega⟩)
    intro s k hI5 ih4
    obtain ⟨⟨k0, k1⟩, hs, hr⟩ := hI5
    refine q_blk (lv2 := [(0, vr n), (1, vi p), (2, vi s), (3, vi 0), (4, vi k)]) (st2 := [vi p, vr n, vi k]) kX9_dentsOf_19 rfl ?_
    refine q_Vi (av := [vi p]) (st := [vi k]) (c_X9_countOf hm hD (by omega) (by omega)) lk_RX9_39 (by decide) rfl rfl hm.ob ⟨_, rfl, rfl⟩ (Nat.le_of_ble_eq_true rfl) eX9_dentsOf_23 (fun z6 e7 => ?_)
    subst e7
    refine AQ.ic_ge (tgt := 130) eX9_dentsOf_26 (by decide) (by first | assumption | exact ⟨by omega, by omega⟩) (by first | assumption | exact ⟨by omega, by omega⟩) (fun br8 => ?_) (fun br8 => ?_)
    · skip
      refine q_blk (lv2 := [(0, vr n), (1, vi p), (2, vi s), (3, vi 0), (4, vi k)]) (st2 := [vi s]) kX9_dentsOf_130 rfl ?_
      exact q_ri rfl eX9_dentsOf_131 ⟨s, rfl, ⟨by unfold gm_de; rw [hs, show k = pN D p by omega], by omega, by omega⟩, rfl⟩
    · skip
      refine q_blk (lv2 := [(0, vr n), (1, vi p), (2, vi s), (3, vi 0), (4, vi k)]) (st2 := [vi k, vi p, vr n]) kX9_dentsOf_29 rfl ?_
      have hc9 := hD.c p0 (by omega) k0 (by omega)
      obtain ⟨hc8, hc7⟩ := id hc9
      have nx8 := gm_nx_r (n := pN D p) (k := k) (by omega) (by omega)
      obtain ⟨hc6, hc5⟩ := id (hD.c p0 (by omega) nx8.1 nx8.2)
      have pv8 := gm_pv_r (n := pN D p) (k := k) (by omega) (by omega)
      obtain ⟨hc4, hc3⟩ := id (hD.c p0 (by omega) pv8.1 pv8.2)
      refine q_Vi (av := [vi p, vi k]) (st := []) (c_X9_ahead hm hD (by omega) (by omega) (by omega) (by omega)) lk_RX9_121 (by decide) rfl rfl hm.ob ⟨_, rfl, rfl⟩ (Nat.le_of_ble_eq_true rfl) eX9_dentsOf_33 (fun z9 e10 => ?_)
      subst e10
      have pv9 := gm_pv_r (n := pN D p) (k := k) (by omega) (by omega)
      refine q_blk (lv2 := [(0, vr n), (1, vi p), (2, vi s), (3, vi 0), (4, vi k), (5, vi (gm_pv (pN D p) k))]) (st2 := [vi k, vi p, vr n]) kX9_dentsOf_36 rfl ?_
      refine q_Vi (av := [vi p, vi k]) (st := []) (c_X9_behind hm hD (by omega) (by omega) (by omega) (by omega)) lk_RX9_84 (by decide) rfl rfl hm.ob ⟨_, rfl, rfl⟩ (Nat.le_of_ble_eq_true rfl) eX9_dentsOf_42 (fun z11 e12 => ?_)
      subst e12
      have nx9 := gm_nx_r (n := pN D p) (k := k) (by omega) (by omega)
      refine q_blk (lv2 := [(0, vr n), (1, vi p), (2, vi s), (3, vi 0), (4, vi k), (5, vi (gm_pv (pN D p) k)), (6, vi (gm_nx (pN D p) k))]) (st2 := [vi (gm_pv (pN D p) k), vi p, vr n]) kX9_dentsOf_45 rfl ?_
      refine q_Vi (av := [vi p, vi (gm_pv (pN D p) k)]) (st := []) (c_X9_xOf hm hD (by omega) (by omega) (by omega) (by omega)) lk_RX9_72 (by decide) rfl rfl hm.ob ⟨_, rfl, rfl⟩ (Nat.le_of_ble_eq_true rfl) eX9_dentsOf_51 (fun z13 e14 => ?_)
      subst e14
      refine q_blk (lv2 := [(0, vr n), (1, vi p), (2, vi s), (3, vi 0), (4, vi k), (5, vi (gm_pv (pN D p) k)), (6, vi (gm_nx (pN D p) k))]) (st2 := [vi (gm_pv (pN D p) k), vi p, vr n, vi (pX D p (gm_pv (pN D p) k))]) kX9_dentsOf_54 rfl ?_
      refine q_Vi (av := [vi p, vi (gm_pv (pN D p) k)]) (st := [vi (pX D p (gm_pv (pN D p) k))]) (c_X9_yOf hm hD (by omega) (by omega) (by omega) (by omega)) lk_RX9_75 (by decide) rfl rfl hm.ob ⟨_, rfl, rfl⟩ (Nat.le_of_ble_eq_true rfl) eX9_dentsOf_58 (fun z15 e16 => ?_)
      subst e16
      refine q_blk (lv2 := [(0, vr n), (1, vi p), (2, vi s), (3, vi 0), (4, vi k), (5, vi (gm_pv (pN D p) k)), (6, vi (gm_nx (pN D p) k))]) (st2 := [vi k, vi p, vr n, vi (pY D p (gm_pv (pN D p) k)), vi (pX D p (gm_pv (pN D p) k))]) kX9_dentsOf_61 rfl ?_
      refine q_Vi (av := [vi p, vi k]) (st := [vi (pY D p (gm_pv (pN D p) k)), vi (pX D p (gm_pv (pN D p) k))]) (c_X9_xOf hm hD (by omega) (by omega) (by omega) (by omega)) lk_RX9_72 (by decide) rfl rfl hm.ob ⟨_, rfl, rfl⟩ (Nat.le_of_ble_eq_true rfl) eX9_dentsOf_65 (fun z17 e18 => ?_)
      subst e18
      refine q_blk (lv2 := [(0, vr n), (1, vi p), (2, vi s), (3, vi 0), (4, vi k), (5, vi (gm_pv (pN D p) k)), (6, vi (gm_nx (pN D p) k))]) (st2 := [vi k, vi p, vr n, vi (pX D p k), vi (pY D p (gm_pv (pN D p) k)), vi (pX D p (gm_pv (pN D p) k))]) kX9_dentsOf_68 rfl ?_
      refine q_Vi (av := [vi p, vi k]) (st := [vi (pX D p k), vi (pY D p (gm_pv (pN D p) k)), vi (pX D p (gm_pv (pN D p) k))]) (c_X9_yOf hm hD (by omega) (by omega) (by omega) (by omega)) lk_RX9_75 (by decide) rfl rfl hm.ob ⟨_, rfl, rfl⟩ (Nat.le_of_ble_eq_true rfl) eX9_dentsOf_72 (fun z19 e20 => ?_)
      subst e20
      refine q_blk (lv2 := [(0, vr n), (1, vi p), (2, vi s), (3, vi 0), (4, vi k), (5, vi (gm_pv (pN D p) k)), (6, vi (gm_nx (pN D p) k))]) (st2 := [vi (gm_nx (pN D p) k), vi p, vr n, vi (pY D p k), vi (pX D p k), vi (pY D p (gm_pv (pN D p) k)), vi (pX D p (gm_pv (pN D p) k))]) kX9_dentsOf_75 rfl ?_
      refine q_Vi (av := [vi p, vi (gm_nx (pN D p) k)]) (st := [vi (pY D p k), vi (pX D p k), vi (pY D p (gm_pv (pN D p) k)), vi (pX D p (gm_pv (pN D p) k))]) (c_X9_xOf hm hD (by omega) (by omega) (by omega) (by omega)) lk_RX9_72 (by decide) rfl rfl hm.ob ⟨_, rfl, rfl⟩ (Nat.le_of_ble_eq_true rfl) eX9_dentsOf_79 (fun z21 e22 => ?_)
      subst e22
      refine q_blk (lv2 := [(0, vr n), (1, vi p), (2, vi s), (3, vi 0), (4, vi k), (5, vi (gm_pv (pN D p) k)), (6, vi (gm_nx (pN D p) k))]) (st2 := [vi (gm_nx (pN D p) k), vi p, vr n, vi (pX D p (gm_nx (pN D p) k)), vi (pY D p k), vi (pX D p k), vi (pY D p (gm_pv (pN D p) k)), vi (pX D p (gm_pv (pN D p) k))]) kX9_dentsOf_82 rfl ?_
      refine q_Vi (av := [vi p, vi (gm_nx (pN D p) k)]) (st := [vi (pX D p (gm_nx (pN D p) k)), vi (pY D p k), vi (pX D p k), vi (pY D p (gm_pv (pN D p) k)), vi (pX D p (gm_pv (pN D p) k))]) (c_X9_yOf hm hD (by omega) (by omega) (by omega) (by omega)) lk_RX9_75 (by decide) rfl rfl hm.ob ⟨_, rfl, rfl⟩ (Nat.le_of_ble_eq_true rfl) eX9_dentsOf_86 (fun z23 e24 => ?_)
      subst e24
      refine q_Si (av := [vi (pX D p (gm_pv (pN D p) k)), vi (pY D p (gm_pv (pN D p) k)), vi (pX D p k), vi (pY D p k), vi (pX D p (gm_nx (pN D p) k)), vi (pY D p (gm_nx (pN D p) k))]) (st := []) c_X9_turn lk_RX9_46 (by decide) rfl rfl (Nat.le_of_ble_eq_true rfl) eX9_dentsOf_89 (fun z25 e26 => ?_)
      subst e26
      have tr9 := gm_turn_r (ax := (pX D p (gm_pv (pN D p) k))) (ay := (pY D p (gm_pv (pN D p) k))) (bx := (pX D p k)) (by' := (pY D p k)) (px := (pX D p (gm_nx (pN D p) k))) (py := (pY D p (gm_nx (pN D p) k))) (by first | assumption | exact ⟨by omega, by omega⟩) (by first | assumption | exact ⟨by omega, by omega⟩) (by first | assumption | exact ⟨by omega, by omega⟩) (by first | assumption | exact ⟨by omega, by omega⟩) (by first | assumption | exact ⟨by omega, by omega⟩) (by first | assumption | exact ⟨by omega, by omega⟩)
      refine q_blk (lv2 := [(0, vr n), (1, vi p), (2, vi s), (3, vi 0), (4, vi k), (5, vi (gm_pv (pN D p) k)), (6, vi (gm_nx (pN D p) k)), (7, vi (gm_turn (pX D p (gm_pv (pN D p) k)) (pY D p (gm_pv (pN D p) k)) (pX D p k) (pY D p k) (pX D p (gm_nx (pN D p) k)) (pY D p (gm_nx (pN D p) k))))]) (st2 := [vi 0, vi s]) kX9_dentsOf_92 rfl ?_
      refine AQ.of (AS.if_eq_t (tgt := 112) eX9_dentsOf_96 (by decide) ⟨by decide, by decide⟩ (by decide)) ?_
      refine q_blk (lv2 := [(0, vr n), (1, vi p), (2, vi s), (3, vi 0), (4, vi k), (5, vi (gm_pv (pN D p) k)), (6, vi (gm_nx (pN D p) k)), (7, vi (gm_turn (pX D p (gm_pv (pN D p) k)) (pY D p (gm_pv (pN D p) k)) (pX D p k) (pY D p k) (pX D p (gm_nx (pN D p) k)) (pY D p (gm_nx (pN D p) k))))]) (st2 := [vi (gm_turn (pX D p (gm_pv (pN D p) k)) (pY D p (gm_pv (pN D p) k)) (pX D p k) (pY D p k) (pX D p (gm_nx (pN D p) k)) (pY D p (gm_nx (pN D p) k))), vi s]) kX9_dentsOf_112 rfl ?_
      refine AQ.if_le (tgt := 121) eX9_dentsOf_114 (by decide) (by first | assumption | exact ⟨by omega, by omega⟩) (fun br27 => ?_) (fun br27 => ?_)
      · skip
        refine q_blk (lv2 := [(0, vr n), (1, vi p), (2, vi s), (3, vi 0), (4, vi k), (5, vi (gm_pv (pN D p) k)), (6, vi (gm_nx (pN D p) k)), (7, vi (gm_turn (pX D p (gm_pv (pN D p) k)) (pY D p (gm_pv (pN D p) k)) (pX D p k) (pY D p k) (pX D p (gm_nx (pN D p) k)) (pY D p (gm_nx (pN D p) k))))]) (st2 := [vi 0, vi s]) kX9_dentsOf_121 rfl ?_
        refine q_blk (lv2 := [(0, vr n), (1, vi p), (2, vi (s + 0)), (3, vi 0), (4, vi (k + 1)), (5, vi (gm_pv (pN D p) k)), (6, vi (gm_nx (pN D p) k)), (7, vi (gm_turn (pX D p (gm_pv (pN D p) k)) (pY D p (gm_pv (pN D p) k)) (pX D p k) (pY D p k) (pX D p (gm_nx (pN D p) k)) (pY D p (gm_nx (pN D p) k))))]) (st2 := []) kX9_dentsOf_122 rfl ?_
        refine q_goto (tgt := 19) eX9_dentsOf_127 (by decide) ?_
        refine q_sub (lv2 := [(0, vr n), (1, vi p), (2, vi (s + 0)), (3, vi 0), (4, vi (k + 1))]) [0, 1, 2, 3, 4] rfl ?_
        exact ih4 (s + 0) (k + 1) (⟨⟨by omega, by omega⟩, by
        rw [gm_sm_s _ k0, ← hs]
        unfold gm_de1 gm_tn
        first
        | (rw [if_pos (by omega), if_pos (by omega)])
        | (rw [if_pos (by omega), if_neg (by omega)])
        | (rw [if_neg (by omega), if_pos (by omega)])
        | (rw [if_neg (by omega), if_neg (by omega)]), by omega⟩) (by omega)
      · skip
        refine q_blk (lv2 := [(0, vr n), (1, vi p), (2, vi s), (3, vi 0), (4, vi k), (5, vi (gm_pv (pN D p) k)), (6, vi (gm_nx (pN D p) k)), (7, vi (gm_turn (pX D p (gm_pv (pN D p) k)) (pY D p (gm_pv (pN D p) k)) (pX D p k) (pY D p k) (pX D p (gm_nx (pN D p) k)) (pY D p (gm_nx (pN D p) k))))]) (st2 := [vi 1, vi s]) kX9_dentsOf_117 rfl ?_
        refine q_goto (tgt := 122) eX9_dentsOf_118 (by decide) ?_
        refine q_blk (lv2 := [(0, vr n), (1, vi p), (2, vi (s + 1)), (3, vi 0), (4, vi (k + 1)), (5, vi (gm_pv (pN D p) k)), (6, vi (gm_nx (pN D p) k)), (7, vi (gm_turn (pX D p (gm_pv (pN D p) k)) (pY D p (gm_pv (pN D p) k)) (pX D p k) (pY D p k) (pX D p (gm_nx (pN D p) k)) (pY D p (gm_nx (pN D p) k))))]) (st2 := []) kX9_dentsOf_122 rfl ?_
        refine q_goto (tgt := 19) eX9_dentsOf_127 (by decide) ?_
        refine q_sub (lv2 := [(0, vr n), (1, vi p), (2, vi (s + 1)), (3, vi 0), (4, vi (k + 1))]) [0, 1, 2, 3, 4] rfl ?_
        exact ih4 (s + 1) (k + 1) (⟨⟨by omega, by omega⟩, by
        rw [gm_sm_s _ k0, ← hs]
        unfold gm_de1 gm_tn
        first
        | (rw [if_pos (by omega), if_pos (by omega)])
        | (rw [if_pos (by omega), if_neg (by omega)])
        | (rw [if_neg (by omega), if_pos (by omega)])
        | (rw [if_neg (by omega), if_neg (by omega)]), by omega⟩) (by omega)
  · skip
    refine q_blk (lv2 := [(0, vr n), (1, vi p), (2, vi 0)]) (st2 := [vi 1]) kX9_dentsOf_10 rfl ?_
    refine q_goto (tgt := 15) eX9_dentsOf_11 (by decide) ?_
    refine q_blk (lv2 := [(0, vr n), (1, vi p), (2, vi 0), (3, vi 1), (4, vi 0)]) (st2 := []) kX9_dentsOf_15 rfl ?_
    refine am_lp2 (I := fun (s : Int) (k : Int) => (0 ≤ k ∧ k ≤ pN D p) ∧ s = gm_sm (gm_de1 (pN D p) (pX D p) (pY D p)) k.toNat ∧ (0 ≤ s ∧ s ≤ k)) (μ := fun (s : Int) (k : Int) => (pN D p - k).toNat) (G := fun (s : Int) (k : Int) => AQ w m_X9_dentsOf 5 19 [(0, vr n), (1, vi p), (2, vi s), (3, vi 1), (4, vi k)] [] h (am_intp h (fun z => z = gm_de (pN D p) (pX D p) (pY D p) ∧ 0 ≤ z ∧ z ≤ 12))) ?_ 0 0 (⟨⟨by omega, by omega⟩, rfl, by omega⟩)
    intro s k hI29 ih28
    obtain ⟨⟨k0, k1⟩, hs, hr⟩ := hI29
    refine q_blk (lv2 := [(0, vr n), (1, vi p), (2, vi s), (3, vi 1), (4, vi k)]) (st2 := [vi p, vr n, vi k]) kX9_dentsOf_19 rfl ?_
    refine q_Vi (av := [vi p]) (st := [vi k]) (c_X9_countOf hm hD (by omega) (by omega)) lk_RX9_39 (by decide) rfl rfl hm.ob ⟨_, rfl, rfl⟩ (Nat.le_of_ble_eq_true rfl) eX9_dentsOf_23 (fun z30 e31 => ?_)
    subst e31
    refine AQ.ic_ge (tgt := 130) eX9_dentsOf_26 (by decide) (by first | assumption | exact ⟨by omega, by omega⟩) (by first | assumption | exact ⟨by omega, by omega⟩) (fun br32 => ?_) (fun br32 => ?_)
    · skip
      refine q_blk (lv2 := [(0, vr n), (1, vi p), (2, vi s), (3, vi 1), (4, vi k)]) (st2 := [vi s]) kX9_dentsOf_130 rfl ?_
      exact q_ri rfl eX9_dentsOf_131 ⟨s, rfl, ⟨by unfold gm_de; rw [hs, show k = pN D p by omega], by omega, by omega⟩, rfl⟩
    · skip
      refine q_blk (lv2 := [(0, vr n), (1, vi p), (2, vi s), (3, vi 1), (4, vi k)]) (st2 := [vi k, vi p, vr n]) kX9_dentsOf_29 rfl ?_
      have hc9 := hD.c p0 (by omega) k0 (by omega)
      obtain ⟨hc8, hc7⟩ := id hc9
      have nx8 := gm_nx_r (n := pN D p) (k := k) (by omega) (by omega)
      obtain ⟨hc6, hc5⟩ := id (hD.c p0 (by omega) nx8.1 nx8.2)
      have pv8 := gm_pv_r (n := pN D p) (k := k) (by omega) (by omega)
      obtain ⟨hc4, hc3⟩ := id (hD.c p0 (by omega) pv8.1 pv8.2)
      refine q_Vi (av := [vi p, vi k]) (st := []) (c_X9_ahead hm hD (by omega) (by omega) (by omega) (by omega)) lk_RX9_121 (by decide) rfl rfl hm.ob ⟨_, rfl, rfl⟩ (Nat.le_of_ble_eq_true rfl) eX9_dentsOf_33 (fun z33 e34 => ?_)
      subst e34
      have pv9 := gm_pv_r (n := pN D p) (k := k) (by omega) (by omega)
      refine q_blk (lv2 := [(0, vr n), (1, vi p), (2, vi s), (3, vi 1), (4, vi k), (5, vi (gm_pv (pN D p) k))]) (st2 := [vi k, vi p, vr n]) kX9_dentsOf_36 rfl ?_
      refine q_Vi (av := [vi p, vi k]) (st := []) (c_X9_behind hm hD (by omega) (by omega) (by omega) (by omega)) lk_RX9_84 (by decide) rfl rfl hm.ob ⟨_, rfl, rfl⟩ (Nat.le_of_ble_eq_true rfl) eX9_dentsOf_42 (fun z35 e36 => ?_)
      subst e36
      have nx9 := gm_nx_r (n := pN D p) (k := k) (by omega) (by omega)
      refine q_blk (lv2 := [(0, vr n), (1, vi p), (2, vi s), (3, vi 1), (4, vi k), (5, vi (gm_pv (pN D p) k)), (6, vi (gm_nx (pN D p) k))]) (st2 := [vi (gm_pv (pN D p) k), vi p, vr n]) kX9_dentsOf_45 rfl ?_
      refine q_Vi (av := [vi p, vi (gm_pv (pN D p) k)]) (st := []) (c_X9_xOf hm hD (by omega) (by omega) (by omega) (by omega)) lk_RX9_72 (by decide) rfl rfl hm.ob ⟨_, rfl, rfl⟩ (Nat.le_of_ble_eq_true rfl) eX9_dentsOf_51 (fun z37 e38 => ?_)
      subst e38
      refine q_blk (lv2 := [(0, vr n), (1, vi p), (2, vi s), (3, vi 1), (4, vi k), (5, vi (gm_pv (pN D p) k)), (6, vi (gm_nx (pN D p) k))]) (st2 := [vi (gm_pv (pN D p) k), vi p, vr n, vi (pX D p (gm_pv (pN D p) k))]) kX9_dentsOf_54 rfl ?_
      refine q_Vi (av := [vi p, vi (gm_pv (pN D p) k)]) (st := [vi (pX D p (gm_pv (pN D p) k))]) (c_X9_yOf hm hD (by omega) (by omega) (by omega) (by omega)) lk_RX9_75 (by decide) rfl rfl hm.ob ⟨_, rfl, rfl⟩ (Nat.le_of_ble_eq_true rfl) eX9_dentsOf_58 (fun z39 e40 => ?_)
      subst e40
      refine q_blk (lv2 := [(0, vr n), (1, vi p), (2, vi s), (3, vi 1), (4, vi k), (5, vi (gm_pv (pN D p) k)), (6, vi (gm_nx (pN D p) k))]) (st2 := [vi k, vi p, vr n, vi (pY D p (gm_pv (pN D p) k)), vi (pX D p (gm_pv (pN D p) k))]) kX9_dentsOf_61 rfl ?_
      refine q_Vi (av := [vi p, vi k]) (st := [vi (pY D p (gm_pv (pN D p) k)), vi (pX D p (gm_pv (pN D p) k))]) (c_X9_xOf hm hD (by omega) (by omega) (by omega) (by omega)) lk_RX9_72 (by decide) rfl rfl hm.ob ⟨_, rfl, rfl⟩ (Nat.le_of_ble_eq_true rfl) eX9_dentsOf_65 (fun z41 e42 => ?_)
      subst e42
      refine q_blk (lv2 := [(0, vr n), (1, vi p), (2, vi s), (3, vi 1), (4, vi k), (5, vi (gm_pv (pN D p) k)), (6, vi (gm_nx (pN D p) k))]) (st2 := [vi k, vi p, vr n, vi (pX D p k), vi (pY D p (gm_pv (pN D p) k)), vi (pX D p (gm_pv (pN D p) k))]) kX9_dentsOf_68 rfl ?_
      refine q_Vi (av := [vi p, vi k]) (st := [vi (pX D p k), vi (pY D p (gm_pv (pN D p) k)), vi (pX D p (gm_pv (pN D p) k))]) (c_X9_yOf hm hD (by omega) (by omega) (by omega) (by omega)) lk_RX9_75 (by decide) rfl rfl hm.ob ⟨_, rfl, rfl⟩ (Nat.le_of_ble_eq_true rfl) eX9_dentsOf_72 (fun z43 e44 => ?_)
      subst e44
      refine q_blk (lv2 := [(0, vr n), (1, vi p), (2, vi s), (3, vi 1), (4, vi k), (5, vi (gm_pv (pN D p) k)), (6, vi (gm_nx (pN D p) k))]) (st2 := [vi (gm_nx (pN D p) k), vi p, vr n, vi (pY D p k), vi (pX D p k), vi (pY D p (gm_pv (pN D p) k)), vi (pX D p (gm_pv (pN D p) k))]) kX9_dentsOf_75 rfl ?_
      refine q_Vi (av := [vi p, vi (gm_nx (pN D p) k)]) (st := [vi (pY D p k), vi (pX D p k), vi (pY D p (gm_pv (pN D p) k)), vi (pX D p (gm_pv (pN D p) k))]) (c_X9_xOf hm hD (by omega) (by omega) (by omega) (by omega)) lk_RX9_72 (by decide) rfl rfl hm.ob ⟨_, rfl, rfl⟩ (Nat.le_of_ble_eq_true rfl) eX9_dentsOf_79 (fun z45 e46 => ?_)
      subst e46
      refine q_blk (lv2 := [(0, vr n), (1, vi p), (2, vi s), (3, vi 1), (4, vi k), (5, vi (gm_pv (pN D p) k)), (6, vi (gm_nx (pN D p) k))]) (st2 := [vi (gm_nx (pN D p) k), vi p, vr n, vi (pX D p (gm_nx (pN D p) k)), vi (pY D p k), vi (pX D p k), vi (pY D p (gm_pv (pN D p) k)), vi (pX D p (gm_pv (pN D p) k))]) kX9_dentsOf_82 rfl ?_
      refine q_Vi (av := [vi p, vi (gm_nx (pN D p) k)]) (st := [vi (pX D p (gm_nx (pN D p) k)), vi (pY D p k), vi (pX D p k), vi (pY D p (gm_pv (pN D p) k)), vi (pX D p (gm_pv (pN D p) k))]) (c_X9_yOf hm hD (by omega) (by omega) (by omega) (by omega)) lk_RX9_75 (by decide) rfl rfl hm.ob ⟨_, rfl, rfl⟩ (Nat.le_of_ble_eq_true rfl) eX9_dentsOf_86 (fun z47 e48 => ?_)
      subst e48
      refine q_Si (av := [vi (pX D p (gm_pv (pN D p) k)), vi (pY D p (gm_pv (pN D p) k)), vi (pX D p k), vi (pY D p k), vi (pX D p (gm_nx (pN D p) k)), vi (pY D p (gm_nx (pN D p) k))]) (st := []) c_X9_turn lk_RX9_46 (by decide) rfl rfl (Nat.le_of_ble_eq_true rfl) eX9_dentsOf_89 (fun z49 e50 => ?_)
      subst e50
      have tr9 := gm_turn_r (ax := (pX D p (gm_pv (pN D p) k))) (ay := (pY D p (gm_pv (pN D p) k))) (bx := (pX D p k)) (by' := (pY D p k)) (px := (pX D p (gm_nx (pN D p) k))) (py := (pY D p (gm_nx (pN D p) k))) (by first | assumption | exact ⟨by omega, by omega⟩) (by first | assumption | exact ⟨by omega, by omega⟩) (by first | assumption | exact ⟨by omega, by omega⟩) (by first | assumption | exact ⟨by omega, by omega⟩) (by first | assumption | exact ⟨by omega, by omega⟩) (by first | assumption | exact ⟨by omega, by omega⟩)
      refine q_blk (lv2 := [(0, vr n), (1, vi p), (2, vi s), (3, vi 1), (4, vi k), (5, vi (gm_pv (pN D p) k)), (6, vi (gm_nx (pN D p) k)), (7, vi (gm_turn (pX D p (gm_pv (pN D p) k)) (pY D p (gm_pv (pN D p) k)) (pX D p k) (pY D p k) (pX D p (gm_nx (pN D p) k)) (pY D p (gm_nx (pN D p) k))))]) (st2 := [vi 1, vi s]) kX9_dentsOf_92 rfl ?_
      refine AQ.of (AS.if_eq_f eX9_dentsOf_96 ⟨by decide, by decide⟩ (by decide) (by decide)) ?_
      refine q_blk (lv2 := [(0, vr n), (1, vi p), (2, vi s), (3, vi 1), (4, vi k), (5, vi (gm_pv (pN D p) k)), (6, vi (gm_nx (pN D p) k)), (7, vi (gm_turn (pX D p (gm_pv (pN D p) k)) (pY D p (gm_pv (pN D p) k)) (pX D p k) (pY D p k) (pX D p (gm_nx (pN D p) k)) (pY D p (gm_nx (pN D p) k))))]) (st2 := [vi (gm_turn (pX D p (gm_pv (pN D p) k)) (pY D p (gm_pv (pN D p) k)) (pX D p k) (pY D p k) (pX D p (gm_nx (pN D p) k)) (pY D p (gm_nx (pN D p) k))), vi s]) kX9_dentsOf_99 rfl ?_
      refine AQ.if_ge (tgt := 108) eX9_dentsOf_101 (by decide) (by first | assumption | exact ⟨by omega, by omega⟩) (fun br51 => ?_) (fun br51 => ?_)
      · skip
        refine q_blk (lv2 := [(0, vr n), (1, vi p), (2, vi s), (3, vi 1), (4, vi k), (5, vi (gm_pv (pN D p) k)), (6, vi (gm_nx (pN D p) k)), (7, vi (gm_turn (pX D p (gm_pv (pN D p) k)) (pY D p (gm_pv (pN D p) k)) (pX D p k) (pY D p k) (pX D p (gm_nx (pN D p) k)) (pY D p (gm_nx (pN D p) k))))]) (st2 := [vi 0, vi s]) kX9_dentsOf_108 rfl ?_
        refine q_goto (tgt := 122) eX9_dentsOf_109 (by decide) ?_
        refine q_blk (lv2 := [(0, vr n), (1, vi p), (2, vi (s + 0)), (3, vi 1), (4, vi (k + 1)), (5, vi (gm_pv (pN D p) k)), (6, vi (gm_nx (pN D p) k)), (7, vi (gm_turn (pX D p (gm_pv (pN D p) k)) (pY D p (gm_pv (pN D p) k)) (pX D p k) (pY D p k) (pX D p (gm_nx (pN D p) k)) (pY D p (gm_nx (pN D p) k))))]) (st2 := []) kX9_dentsOf_122 rfl ?_
        refine q_goto (tgt := 19) eX9_dentsOf_127 (by decide) ?_
        refine q_sub (lv2 := [(0, vr n), (1, vi p), (2, vi (s + 0)), (3, vi 1), (4, vi (k + 1))]) [0, 1, 2, 3, 4] rfl ?_
        exact ih28 (s + 0) (k + 1) (⟨⟨by omega, by omega⟩, by
        rw [gm_sm_s _ k0, ← hs]
        unfold gm_de1 gm_tn
        first
        | (rw [if_pos (by omega), if_pos (by omega)])
        | (rw [if_pos (by omega), if_neg (by omega)])
        | (rw [if_neg (by omega), if_pos (by omega)])
        | (rw [if_neg (by omega), if_neg (by omega)]), by omega⟩) (by omega)
      · skip
        refine q_blk (lv2 := [(0, vr n), (1, vi p), (2, vi s), (3, vi 1), (4, vi k), (5, vi (gm_pv (pN D p) k)), (6, vi (gm_nx (pN D p) k)), (7, vi (gm_turn (pX D p (gm_pv (pN D p) k)) (pY D p (gm_pv (pN D p) k)) (pX D p k) (pY D p k) (pX D p (gm_nx (pN D p) k)) (pY D p (gm_nx (pN D p) k))))]) (st2 := [vi 1, vi s]) kX9_dentsOf_104 rfl ?_
        refine q_goto (tgt := 122) eX9_dentsOf_105 (by decide) ?_
        refine q_blk (lv2 := [(0, vr n), (1, vi p), (2, vi (s + 1)), (3, vi 1), (4, vi (k + 1)), (5, vi (gm_pv (pN D p) k)), (6, vi (gm_nx (pN D p) k)), (7, vi (gm_turn (pX D p (gm_pv (pN D p) k)) (pY D p (gm_pv (pN D p) k)) (pX D p k) (pY D p k) (pX D p (gm_nx (pN D p) k)) (pY D p (gm_nx (pN D p) k))))]) (st2 := []) kX9_dentsOf_122 rfl ?_
        refine q_goto (tgt := 19) eX9_dentsOf_127 (by decide) ?_
        refine q_sub (lv2 := [(0, vr n), (1, vi p), (2, vi (s + 1)), (3, vi 1), (4, vi (k + 1))]) [0, 1, 2, 3, 4] rfl ?_
        exact ih28 (s + 1) (k + 1) (⟨⟨by omega, by omega⟩, by
        rw [gm_sm_s _ k0, ← hs]
        unfold gm_de1 gm_tn
        first
        | (rw [if_pos (by omega), if_pos (by omega)])
        | (rw [if_pos (by omega), if_neg (by omega)])
        | (rw [if_neg (by omega), if_pos (by omega)])
        | (rw [if_neg (by omega), if_neg (by omega)]), by omega⟩) (by omega)

theorem gm_si_2 {D : Int → Int} {p x y : Int} (h : gm_si 2 (pN D p) (pX D p) (pY D p) x y) : gm_inD D p x y := by
  rcases h with ⟨e, a⟩ | ⟨e, a, b⟩ | ⟨e, a, b⟩
  · omega
  · exact ⟨a, b⟩
  · omega
theorem gm_2_si {D : Int → Int} {p x y : Int} (h : gm_inD D p x y) : gm_si 2 (pN D p) (pX D p) (pY D p) x y := Or.inr (Or.inl ⟨rfl, h.1, h.2⟩)

set_option maxHeartbeats 1000000 in
theorem c_X9_around {w : am_w} {h : AH} {n : Nat} {th bl tl ps er ea eo ud g0 g1 g2 g3 ns ne se : Int} {D : Int → Int} (hm : MM h n th bl tl ps er ea eo ud g0 g1 g2 g3 ns ne se D) (hD : VD D) {x y : Int} (h_x : am_c x) (h_y : am_c y) {but : Int} (r_but : am_r but)  : AE w m_X9_around 6 [vr n, vi x, vi y, vi but] h (am_intp h (fun z => gm_smb D x y but (D 3).toNat z)) := by
  refine AE.of wf_X9_around (Nat.le_of_ble_eq_true rfl) (am_ok_ip) ?_
  obtain ⟨m0, m1⟩ := id hm
  have d0 := hD.1
  have d1 := hD.2.1
  have d2 := hD.2.2.1
  have d3 := hD.2.2.2.1
  have rx := h_x
  have ry := h_y
  unfold am_c at rx ry
  refine q_blk (lv2 := [(0, vr n), (1, vi x), (2, vi y), (3, vi but), (4, vi (-1)), (5, vi 0)]) (st2 := []) kX9_around_0 rfl ?_
  refine am_lp2 (I := fun (b9 : Int) (i : Int) => (0 ≤ i ∧ i ≤ D 3) ∧ gm_smb D x y but i.toNat b9) (μ := fun (b9 : Int) (i : Int) => (D 3 - i).toNat) (G := fun (b9 : Int) (i : Int) => AQ w m_X9_around 6 6 [(0, vr n), (1, vi x), (2, vi y), (3, vi but), (4, vi b9), (5, vi i)] [] h (am_intp h (fun z => gm_smb D x y but (D 3).toNat z))) ?_ (-1) 0 (⟨⟨by omega, by omega⟩, rfl⟩)
  intro b9 i hI2 ih1
  obtain ⟨⟨i0, i1⟩, hb⟩ := hI2
  have hbr := gm_smb_r hb
  refine q_blk (lv2 := [(0, vr n), (1, vi x), (2, vi y), (3, vi but), (4, vi b9), (5, vi i)]) (st2 := [vr n, vi i]) kX9_around_6 rfl ?_
  refine q_gr eX9_around_9 fl_RX9_17 (Or.inr ⟨_, rfl⟩) m0 rfl ?_
  refine q_blk (lv2 := [(0, vr n), (1, vi x), (2, vi y), (3, vi but), (4, vi b9), (5, vi i)]) (st2 := [vi 3, vr (n + 2), vi i]) kX9_around_12 rfl ?_
  refine q_ia eX9_around_13 m1 (by decide) (by omega) (by omega) (z := (D 3)) rfl ?_
  refine AQ.ic_ge (tgt := 75) eX9_around_14 (by decide) (by first | assumption | exact ⟨by omega, by omega⟩) (by first | assumption | exact ⟨by omega, by omega⟩) (fun br3 => ?_) (fun br3 => ?_)
  · skip
    refine q_blk (lv2 := [(0, vr n), (1, vi x), (2, vi y), (3, vi but), (4, vi b9), (5, vi i)]) (st2 := [vi b9]) kX9_around_75 rfl ?_
    exact q_ri rfl eX9_around_77 ⟨b9, rfl, by rw [show D 3 = i by omega]; exact hb, rfl⟩
  · skip
    refine q_blk (lv2 := [(0, vr n), (1, vi x), (2, vi y), (3, vi but), (4, vi b9), (5, vi i)]) (st2 := [vi but, vi i]) kX9_around_17 rfl ?_
    refine AQ.ic_eq (tgt := 69) eX9_around_20 (by decide) (by first | assumption | exact ⟨by omega, by omega⟩) (by first | assumption | exact ⟨by omega, by omega⟩) (fun br4 => ?_) (fun br4 => ?_)
    · skip
      refine q_blk (lv2 := [(0, vr n), (1, vi x), (2, vi y), (3, vi but), (4, vi b9), (5, vi (i + 1))]) (st2 := []) kX9_around_69 rfl ?_
      refine q_goto (tgt := 6) eX9_around_72 (by decide) ?_
      exact ih1 b9 (i + 1) (⟨⟨by omega, by omega⟩, gm_smb_f i0 hb (fun q => by have := q.2.1; omega)⟩) (by omega)
    · skip
      refine q_blk (lv2 := [(0, vr n), (1, vi x), (2, vi y), (3, vi but), (4, vi b9), (5, vi i)]) (st2 := [vi i, vr n]) kX9_around_23 rfl ?_
      refine q_Vi (av := [vi i]) (st := []) (c_X9_isClosed hm hD (by omega) (by omega)) lk_RX9_42 (by decide) rfl rfl hm.ob ⟨_, rfl, rfl⟩ (Nat.le_of_ble_eq_true rfl) eX9_around_26 (fun z5 e6 => ?_)
      rcases e6 with ⟨rfl, e6⟩ | ⟨rfl, e6⟩
      · skip
        refine AQ.of (AS.if_eq_f eX9_around_29 ⟨by decide, by decide⟩ (by decide) (by decide)) ?_
        refine q_blk (lv2 := [(0, vr n), (1, vi x), (2, vi y), (3, vi but), (4, vi b9), (5, vi i)]) (st2 := [vi y, vi x, vi i, vr n]) kX9_around_32 rfl ?_
        refine q_Vi (av := [vi i, vi x, vi y]) (st := []) (c_X9_sideOf hm hD (by omega) (by omega) (x := x) (y := y) (by first | assumption | exact ⟨by omega, by omega⟩) (by first | assumption | exact ⟨by omega, by omega⟩)) lk_RX9_261 (by decide) rfl rfl hm.ob ⟨_, rfl, rfl⟩ (Nat.le_of_ble_eq_true rfl) eX9_around_37 (fun z7 e8 => ?_)
        have si9 := gm_si_r e8
        refine q_blk (lv2 := [(0, vr n), (1, vi x), (2, vi y), (3, vi but), (4, vi b9), (5, vi i)]) (st2 := [vi 2, vi z7]) kX9_around_40 rfl ?_
        refine AQ.ic_ne (tgt := 69) eX9_around_41 (by decide) (by first | assumption | exact ⟨by omega, by omega⟩) ⟨by decide, by decide⟩ (fun br9 => ?_) (fun br9 => ?_)
        · skip
          refine q_blk (lv2 := [(0, vr n), (1, vi x), (2, vi y), (3, vi but), (4, vi b9), (5, vi (i + 1))]) (st2 := []) kX9_around_69 rfl ?_
          refine q_goto (tgt := 6) eX9_around_72 (by decide) ?_
          exact ih1 b9 (i + 1) (⟨⟨by omega, by omega⟩, gm_smb_f i0 hb (fun q => by have := gm_si_one (gm_2_si q.2.2.1) e8; omega)⟩) (by omega)
        · skip
          refine q_blk (lv2 := [(0, vr n), (1, vi x), (2, vi y), (3, vi but), (4, vi b9), (5, vi i)]) (st2 := [vi (-1), vi b9]) kX9_around_44 rfl ?_
          refine AQ.ic_eq (tgt := 65) eX9_around_47 (by decide) (by first | assumption | exact ⟨by omega, by omega⟩) ⟨by decide, by decide⟩ (fun br10 => ?_) (fun br10 => ?_)
          · skip
            refine q_blk (lv2 := [(0, vr n), (1, vi x), (2, vi y), (3, vi but), (4, vi i), (5, vi i)]) (st2 := []) kX9_around_65 rfl ?_
            refine q_blk (lv2 := [(0, vr n), (1, vi x), (2, vi y), (3, vi but), (4, vi i), (5, vi (i + 1))]) (st2 := []) kX9_around_69 rfl ?_
            refine q_goto (tgt := 6) eX9_around_72 (by decide) ?_
            exact ih1 i (i + 1) (⟨⟨by omega, by omega⟩, gm_smb_t i0 hb (by omega) ⟨by omega, (gm_si_2 (by rw [show (2 : Int) = z7 by omega]; exact e8)), Or.inl (by omega)⟩⟩) (by omega)
          · skip
            refine q_blk (lv2 := [(0, vr n), (1, vi x), (2, vi y), (3, vi but), (4, vi b9), (5, vi i)]) (st2 := [vi i, vr n]) kX9_around_50 rfl ?_
            refine q_Vi (av := [vi i]) (st := []) (c_X9_areaOf hm hD (by omega) (by omega)) lk_RX9_264 (by decide) rfl rfl hm.ob ⟨_, rfl, rfl⟩ (Nat.le_of_ble_eq_true rfl) eX9_around_53 (fun z11 e12 => ?_)
            have ab9 := e12.2
            refine q_blk (lv2 := [(0, vr n), (1, vi x), (2, vi y), (3, vi but), (4, vi b9), (5, vi i)]) (st2 := [vi b9, vr n, vi z11]) kX9_around_56 rfl ?_
            refine q_Vi (av := [vi b9]) (st := [vi z11]) (c_X9_areaOf hm hD (by omega) (by omega)) lk_RX9_264 (by decide) rfl rfl hm.ob ⟨_, rfl, rfl⟩ (Nat.le_of_ble_eq_true rfl) eX9_around_59 (fun z13 e14 => ?_)
            have ab9 := e14.2
            refine AQ.ic_ge (tgt := 69) eX9_around_62 (by decide) (by first | assumption | exact ⟨by omega, by omega⟩) (by first | assumption | exact ⟨by omega, by omega⟩) (fun br15 => ?_) (fun br15 => ?_)
            · skip
              refine q_blk (lv2 := [(0, vr n), (1, vi x), (2, vi y), (3, vi but), (4, vi b9), (5, vi (i + 1))]) (st2 := []) kX9_around_69 rfl ?_
              refine q_goto (tgt := 6) eX9_around_72 (by decide) ?_
              exact ih1 b9 (i + 1) (⟨⟨by omega, by omega⟩, gm_smb_f i0 hb (fun q => by
            have q1 := e12.1
            have q2 := e14.1
            have q3 := q.2.2.2
            omega)⟩) (by omega)
            · skip
              refine q_blk (lv2 := [(0, vr n), (1, vi x), (2, vi y), (3, vi but), (4, vi i), (5, vi i)]) (st2 := []) kX9_around_65 rfl ?_
              refine q_blk (lv2 := [(0, vr n), (1, vi x), (2, vi y), (3, vi but), (4, vi i), (5, vi (i + 1))]) (st2 := []) kX9_around_69 rfl ?_
              refine q_goto (tgt := 6) eX9_around_72 (by decide) ?_
              exact ih1 i (i + 1) (⟨⟨by omega, by omega⟩, gm_smb_t i0 hb (by omega) ⟨by omega, (gm_si_2 (by rw [show (2 : Int) = z7 by omega]; exact e8)), Or.inr (by have q1 := e12.1; have q2 := e14.1; omega)⟩⟩) (by omega)
      · skip
        refine AQ.of (AS.if_eq_t (tgt := 69) eX9_around_29 (by decide) ⟨by decide, by decide⟩ (by decide)) ?_
        refine q_blk (lv2 := [(0, vr n), (1, vi x), (2, vi y), (3, vi but), (4, vi b9), (5, vi (i + 1))]) (st2 := []) kX9_around_69 rfl ?_
        refine q_goto (tgt := 6) eX9_around_72 (by decide) ?_
        exact ih1 b9 (i + 1) (⟨⟨by omega, by omega⟩, gm_smb_f i0 hb (fun q => by have := q.2.1; omega)⟩) (by omega)

set_option maxHeartbeats 1000000 in
theorem c_X9_claimerOf {w : am_w} {h : AH} {n : Nat} {th bl tl ps er ea eo ud g0 g1 g2 g3 ns ne se : Int} {D : Int → Int} (hm : MM h n th bl tl ps er ea eo ud g0 g1 g2 g3 ns ne se D) (hD : VD D) {k : Int} (k0 : 0 ≤ k) (k1 : k < D 2)  : AE w m_X9_claimerOf 7 [vr n, vi k] h (am_intp h (fun z => gm_sma D (sX D k) (sY D k) (D 3).toNat z ∧ -1 ≤ z ∧ z < 6)) := by
  refine AE.of wf_X9_claimerOf (Nat.le_of_ble_eq_true rfl) (am_ok_ip) ?_
  obtain ⟨m0, m1⟩ := id hm
  have d0 := hD.1
  have d1 := hD.2.1
  have d2 := hD.2.2.1
  have d3 := hD.2.2.2.1
  obtain ⟨hs8, hs7⟩ := id (hD.cs k0 k1)
  refine q_blk (lv2 := [(0, vr n), (1, vi k)]) (st2 := [vr n, vr n]) kX9_claimerOf_0 rfl ?_
  refine q_gr eX9_claimerOf_2 fl_RX9_17 (Or.inr ⟨_, rfl⟩) m0 rfl ?_
  refine q_blk (lv2 := [(0, vr n), (1, vi k)]) (st2 := [vi (6 + (3 * k)), vr (n + 2), vr n]) kX9_claimerOf_5 rfl ?_
  refine q_ia eX9_claimerOf_11 m1 (by decide) (by omega) (by omega) (z := (sX D k)) rfl ?_
  refine q_blk (lv2 := [(0, vr n), (1, vi k)]) (st2 := [vr n, vi (sX D k), vr n]) kX9_claimerOf_12 rfl ?_
  refine q_gr eX9_claimerOf_13 fl_RX9_17 (Or.inr ⟨_, rfl⟩) m0 rfl ?_
  refine q_blk (lv2 := [(0, vr n), (1, vi k)]) (st2 := [vi ((6 + (3 * k)) + 1), vr (n + 2), vi (sX D k), vr n]) kX9_claimerOf_16 rfl ?_
  refine q_ia eX9_claimerOf_24 m1 (by decide) (by omega) (by omega) (z := (sY D k)) (congrArg D (by omega)) ?_
  refine q_blk (lv2 := [(0, vr n), (1, vi k)]) (st2 := [vi (-1), vi (sY D k), vi (sX D k), vr n]) kX9_claimerOf_25 rfl ?_
  refine q_Vi (av := [vi (sX D k), vi (sY D k), vi (-1)]) (st := []) (c_X9_around hm hD (x := (sX D k)) (y := (sY D k)) (but := (-1)) (by first | assumption | exact ⟨by omega, by omega⟩) (by first | assumption | exact ⟨by omega, by omega⟩) (by first | assumption | exact ⟨by omega, by omega⟩)) lk_RX9_267 (by decide) rfl rfl hm.ob ⟨_, rfl, rfl⟩ (Nat.le_of_ble_eq_true rfl) eX9_claimerOf_26 (fun z1 e2 => ?_)
  exact q_ri rfl eX9_claimerOf_29 ⟨z1, rfl, ⟨gm_smb_1 e2, by have := gm_smb_r e2; omega, by have := gm_smb_r e2; omega⟩, rfl⟩

theorem gm_cmk {D cm : Int → Int} (hM : CMS D cm) {k z : Int} (k0 : 0 ≤ k) (k1 : k < D 2) (h : gm_sma D (sX D k) (sY D k) (D 3).toNat z) : z = cm k := gm_sma_one h (hM k k0 k1).1

set_option maxHeartbeats 1000000 in
theorem c_X9_claimedNow {w : am_w} {h : AH} {n : Nat} {th bl tl ps er ea eo ud g0 g1 g2 g3 ns ne se : Int} {D : Int → Int} (hm : MM h n th bl tl ps er ea eo ud g0 g1 g2 g3 ns ne se D) (hD : VD D) {cm : Int → Int} (hM : CMS D cm)  : AE w m_X9_claimedNow 8 [vr n] h (am_intp h (fun z => z = gm_sm (gm_nf cm) (D 2).toNat)) := by
  refine AE.of wf_X9_claimedNow (Nat.le_of_ble_eq_true rfl) (am_ok_ip) ?_
  obtain ⟨m0, m1⟩ := id hm
  have d0 := hD.1
  have d1 := hD.2.1
  have d2 := hD.2.2.1
  have d3 := hD.2.2.2.1
  refine q_blk (lv2 := [(0, vr n), (1, vi 0), (2, vi 0)]) (st2 := []) kX9_claimedNow_0 rfl ?_
  refine am_lp2 (I := fun (s : Int) (k : Int) => (0 ≤ k ∧ k ≤ D 2) ∧ s = gm_sm (gm_nf cm) k.toNat ∧ (0 ≤ s ∧ s ≤ k)) (μ := fun (s : Int) (k : Int) => (D 2 - k).toNat) (G := fun (s : Int) (k : Int) => AQ w m_X9_claimedNow 8 4 [(0, vr n), (1, vi s), (2, vi k)] [] h (am_intp h (fun z => z = gm_sm (gm_nf cm) (D 2).toNat))) ?_ 0 0 (⟨⟨by omega, by omega⟩, rfl, by omega⟩)
  intro s k hI2 ih1
  obtain ⟨⟨k0, k1⟩, hs, hr⟩ := hI2
  refine q_blk (lv2 := [(0, vr n), (1, vi s), (2, vi k)]) (st2 := [vr n, vi k]) kX9_claimedNow_4 rfl ?_
  refine q_gr eX9_claimedNow_6 fl_RX9_17 (Or.inr ⟨_, rfl⟩) m0 rfl ?_
  refine q_blk (lv2 := [(0, vr n), (1, vi s), (2, vi k)]) (st2 := [vi 2, vr (n + 2), vi k]) kX9_claimedNow_9 rfl ?_
  refine q_ia eX9_claimedNow_10 m1 (by decide) (by omega) (by omega) (z := (D 2)) rfl ?_
  refine AQ.ic_ge (tgt := 37) eX9_claimedNow_11 (by decide) (by first | assumption | exact ⟨by omega, by omega⟩) (by first | assumption | exact ⟨by omega, by omega⟩) (fun br3 => ?_) (fun br3 => ?_)
  · skip
    refine q_blk (lv2 := [(0, vr n), (1, vi s), (2, vi k)]) (st2 := [vi s]) kX9_claimedNow_37 rfl ?_
    exact q_ri rfl eX9_claimedNow_38 ⟨s, rfl, by rw [hs, show k = D 2 by omega], rfl⟩
  · skip
    refine q_blk (lv2 := [(0, vr n), (1, vi s), (2, vi k)]) (st2 := [vi k, vr n, vi s]) kX9_claimedNow_14 rfl ?_
    refine q_Vi (av := [vi k]) (st := [vi s]) (c_X9_claimerOf hm hD (by omega) (by omega)) lk_RX9_270 (by decide) rfl rfl hm.ob ⟨_, rfl, rfl⟩ (Nat.le_of_ble_eq_true rfl) eX9_claimedNow_17 (fun z4 e5 => ?_)
    have cr9 := e5.2
    have ck9 := gm_cmk hM (k := k) (by omega) (by omega) e5.1
    refine q_blk (lv2 := [(0, vr n), (1, vi s), (2, vi k)]) (st2 := [vi (-1), vi z4, vi s]) kX9_claimedNow_20 rfl ?_
    refine AQ.ic_ne (tgt := 28) eX9_claimedNow_21 (by decide) (by first | assumption | exact ⟨by omega, by omega⟩) ⟨by decide, by decide⟩ (fun br6 => ?_) (fun br6 => ?_)
    · skip
      refine q_blk (lv2 := [(0, vr n), (1, vi s), (2, vi k)]) (st2 := [vi 1, vi s]) kX9_claimedNow_28 rfl ?_
      refine q_blk (lv2 := [(0, vr n), (1, vi (s + 1)), (2, vi (k + 1))]) (st2 := []) kX9_claimedNow_29 rfl ?_
      refine q_goto (tgt := 4) eX9_claimedNow_34 (by decide) ?_
      exact ih1 (s + 1) (k + 1) (⟨⟨by omega, by omega⟩, by rw [gm_sm_s _ k0, ← hs]; unfold gm_nf; split <;> omega, by omega⟩) (by omega)
    · skip
      refine q_blk (lv2 := [(0, vr n), (1, vi s), (2, vi k)]) (st2 := [vi 0, vi s]) kX9_claimedNow_24 rfl ?_
      refine q_goto (tgt := 29) eX9_claimedNow_25 (by decide) ?_
      refine q_blk (lv2 := [(0, vr n), (1, vi (s + 0)), (2, vi (k + 1))]) (st2 := []) kX9_claimedNow_29 rfl ?_
      refine q_goto (tgt := 4) eX9_claimedNow_34 (by decide) ?_
      exact ih1 (s + 0) (k + 1) (⟨⟨by omega, by omega⟩, by rw [gm_sm_s _ k0, ← hs]; unfold gm_nf; split <;> omega, by omega⟩) (by omega)
