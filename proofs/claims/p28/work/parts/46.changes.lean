/-! CornerClaims: the changes. -/
def gA_f (D : Int → Int) (A : Int ⊕ Nat → Prop) (r : Int ⊕ Nat) : Prop := (6 ≤ D 3 ∧ r = .inr 3) ∨ (D 3 < 6 ∧ A r)
def gR_beg (D : Int → Int) (pl x y z : Int) (D' : Int → Int) : Prop := (gm_oc D x y ∧ z = -3 ∧ D' = D) ∨ (¬ gm_oc D x y ∧ z = D 3 ∧ D' = gm_stP D pl x y)
def gR_cor (D : Int → Int) (p x y z : Int) (D' : Int → Int) : Prop := ∃ q, gm_rC D p x y q ∧ ((q ≠ 0 ∧ z = -q ∧ D' = D) ∨ (q = 0 ∧ z = pN D p + 1 ∧ D' = gm_adC D p x y))
def gR_clo (D : Int → Int) (p z : Int) (D' cm' : Int → Int) : Prop := ∃ q, gm_rL D p q ∧ ((q ≠ 0 ∧ z = -q ∧ D' = D) ∨ (q = 0 ∧ z = gm_sm (gm_if cm' p (fun _ => 1)) (D' 2).toNat ∧ D' = gm_clP D p))
def gR_ben (D : Int → Int) (p k x y z : Int) (D' : Int → Int) : Prop := ∃ q, gm_rB D p k x y q ∧ ((q ≠ 0 ∧ z = -q ∧ D' = D) ∨ (q = 0 ∧ z = gm_arD D' p ∧ D' = gm_bnD D p k x y))
def gR_out (D : Int → Int) (p k z : Int) (D' : Int → Int) : Prop := ∃ q, gm_rT D p k q ∧ ((q ≠ 0 ∧ z = -q ∧ D' = D) ∨ (q = 0 ∧ z = gm_arD D' p ∧ D' = gm_toD D p k))
def gm_k2 (D : Int → Int) (p : Int) : Nat → Int → Int
  | 0, v => v
  | n + 1, v => 31 * gm_k2 D p n v + (100 * pX D p n + pY D p n)
def gm_k1 (D : Int → Int) : Nat → Int
  | 0 => 0
  | m + 1 => gm_k2 D m (pN D m).toNat (31 * (31 * gm_k1 D m + pO D m) + pC D m)
def gm_k3 (f : Int → Int) : Nat → Int → Int
  | 0, v => v
  | n + 1, v => 31 * gm_k3 f n v + f n
theorem gm_k2_s {D : Int → Int} {p v i : Int} (h : 0 ≤ i) : gm_k2 D p (i + 1).toNat v = 31 * gm_k2 D p i.toNat v + (100 * pX D p i + pY D p i) := by
  obtain ⟨k, rfl⟩ := Int.eq_ofNat_of_zero_le h
  rfl
theorem gm_k1_s {D : Int → Int} {i : Int} (h : 0 ≤ i) : gm_k1 D (i + 1).toNat = gm_k2 D i (pN D i).toNat (31 * (31 * gm_k1 D i.toNat + pO D i) + pC D i) := by
  obtain ⟨k, rfl⟩ := Int.eq_ofNat_of_zero_le h
  rfl
theorem gm_k3_s {f : Int → Int} {v i : Int} (h : 0 ≤ i) : gm_k3 f (i + 1).toNat v = 31 * gm_k3 f i.toNat v + f i := by
  obtain ⟨k, rfl⟩ := Int.eq_ofNat_of_zero_le h
  rfl
theorem CMS.cm {D cm cm' : Int → Int} (h : CMS D cm) (e : ∀ k, 0 ≤ k → k < D 2 → cm' k = cm k) : CMS D cm' := fun k k0 k1 => by rw [e k k0 k1]; exact h k k0 k1
theorem CCS.undo {h h1 : AH} {o u b a j t s r : Nat} {D cm : Int → Int} {sc : Nat} {L : GL} {tx : Int → Int} {bl le : Int} {Hs : List GE} {z : Int} (k : CCS h o u b a j t s r D cm sc L tx bl le Hs)
    (e : (Hs.map gm_e3 = [] ∧ z = -1 ∧ h = h1) ∨ ∃ e0 l9, Hs.map gm_e3 = e0 :: l9 ∧ z = (l9.length : Int) ∧ BE h1 b e0.1 e0.2.1 e0.2.2 ∧ VD e0.1 ∧ HL h1 r l9 ∧ ∃ h2 h3, am_fr h h2 r (r + 1) ∧ am_fr h2 h3 b (b + 24) ∧ am_fr h3 h1 r (r + 1)) :
    ((Hs = [] ∧ z = -1 ∧ CCS h1 o u b a j t s r D cm sc L tx bl le Hs) ∨ ∃ e Hs', Hs = e :: Hs' ∧ z = (Hs'.length : Int) ∧ ∃ cm', CCS h1 o u b a j t s r e.1 cm' e.2.2.1 e.2.2.2 tx bl le Hs') ∧ am_go 0 h h1 o := by
  obtain ⟨⟨k1, k2, k3, k4, k5, k6, k7, k8⟩, c0, ⟨c1, x1⟩, c2, c3, c4, c5, c6, c7, c8, c9, c10, c11⟩ := id k
  rcases e with ⟨e1, e2, rfl⟩ | ⟨e0, l9, e1, e2, ⟨cm', e3, e4⟩, e5, e6, h2, h3, f1, f2, f3⟩
  · exact ⟨Or.inl ⟨List.map_eq_nil_iff.mp e1, e2, k⟩, am_go.rf⟩
  · cases Hs with
    | nil => cases e1
    | cons g Hs' =>
      rw [List.map_cons] at e1
      cases e1
      have g0 : am_go 0 h h1 o := ((am_go.rf.fr f1 (by omega) (by omega)).fr f2 (by omega) (by omega)).fr f3 (by omega) (by omega)
      have K : ∀ q, ¬ (r ≤ q ∧ q < r + 194) → ¬ (b ≤ q ∧ q < b + 24) → h1.1 q = h.1 q := fun q q1 q2 => (f3.2 q (by omega)).trans ((f2.2 q (by omega)).trans (f1.2 q (by omega)))
      obtain ⟨o1, o2, o3, o4⟩ := c11 g List.mem_cons_self
      have Z : h1.2 = h.2 := f3.1.trans (f2.1.trans f1.1)
      have A1 := ((c5.kept f1 (by omega)).kept f2 (by omega)).kept f3 (by omega)
      have A2 := ((c7.kept f1 (by omega)).kept f2 (by omega)).kept f3 (by omega)
      have A3 := ((c8.kept f1 (by omega)).kept f2 (by omega)).kept f3 (by omega)
      have A4 := SCD.kept9 (SCD.kept9 (SCD.kept9 c9 f1 (by omega)) f2 (by omega)) f3 (by omega)
      exact ⟨Or.inr ⟨g, Hs', rfl, by rw [e2, List.length_map], cm', ⟨k1, k2, k3, k4, k5, k6, k7, by rw [Z]; exact k8⟩, (K _ (by omega) (by omega)).trans c0, ⟨(K _ (by omega) (by omega)).trans c1, x1⟩, c2, e3, ⟨o1, o2, o3.cm e4, o4.go g0 (by omega)⟩, A1, (K _ (by omega) (by omega)).trans c6, A2, A3, A4, e6, fun e he => (c11 e (List.mem_cons_of_mem _ he)).go g0 (by omega)⟩, g0⟩

set_option maxHeartbeats 4000000 in
theorem c_X8_begin {w : am_w} {h : AH} {o u b a j t s r : Nat} {D cm : Int → Int} {sc : Nat} {L : GL} {tx : Int → Int} {bl le : Int} {Hs : List GE} (hX : CCS h o u b a j t s r D cm sc L tx bl le Hs) {pl x y : Int} (r_pl : am_r pl) (r_x : am_r x) (r_y : am_r y)  : AE w m_X8_begin 10 [vr o, vi pl, vi x, vi y] h (am_ay h (gA_pl pl (gA_xy D x y (gA_f D gm_F))) (fun z h1 => ((0 ≤ pl ∧ pl ≤ 3) ∧ ((0 ≤ x ∧ x ≤ D 0) ∧ (0 ≤ y ∧ y ≤ D 1)) ∧ D 3 < 6) ∧ ∃ D' cm', gR_beg D pl x y z D' ∧ CCS h1 o u b a j t s r D' cm' sc L tx bl le ((D, cm, sc, L) :: Hs.take 7) ∧ am_go 0 h h1 o)) := by
  refine AE.of wf_X8_begin (Nat.le_of_ble_eq_true rfl) (am_ok_ay) ?_
  obtain ⟨ou, ob, oa, oj, ot, os, orr, oz⟩ := id hX.1
  obtain ⟨⟨-, -, -, -, -, -, -, oz_0⟩, c0_0, ⟨hXX_0, xr_0⟩, bl0_0, hB_0, ⟨hD_0, hE_0, hM_0, hS_0⟩, hA_0, hJ_0, hLJ_0, hR_0, ⟨fg_0, ll_0, hSC_0⟩, hH_0, hHs_0⟩ := id hX
  obtain ⟨⟨sx_0, sy_0, sv_0, ⟨b0_0, b1_0, b2_0, b3_0, b4_0, b5_0⟩, hst_0⟩, hall_0, hsh_0⟩ := id hB_0
  have d0_0 := hD_0.1
  have d1_0 := hD_0.2.1
  have d2_0 := hD_0.2.2.1
  have d3_0 := hD_0.2.2.2.1
  have hcr_0 : ∀ k8, 0 ≤ k8 → k8 < D 2 → -1 ≤ cm k8 ∧ cm k8 < 6 := fun k8 k0 k1 => (hM_0 k8 k0 k1).2
  have scz_0 := hS_0.2.2
  refine q_blk (lv2 := [(0, vr o), (1, vi pl), (2, vi x), (3, vi y)]) (st2 := [vi pl]) kX8_begin_0 rfl ?_
  refine q_Si (av := [vi pl]) (st := []) (c_X8_isPlayer r_pl) lk_RX8_199 (by decide) rfl rfl (Nat.le_of_ble_eq_true rfl) eX8_begin_1 (fun z2 e3 => ?_)
  rcases e3 with ⟨rfl, e3⟩ | ⟨rfl, e3⟩
  · skip
    have hqL := e3
    refine AQ.of (AS.if_ne_t (tgt := 17) eX8_begin_4 (by decide) ⟨by decide, by decide⟩ (by decide)) ?_
    refine q_blk (lv2 := [(0, vr o), (1, vi pl), (2, vi x), (3, vi y)]) (st2 := [vi y, vi x, vr o]) kX8_begin_17 rfl ?_
    refine AQ.callxVv (av := [vi x, vi y]) (st := []) (c_X8_requirePoint hX r_x r_y) lk_RX8_161 (by decide) rfl rfl hX.ob ⟨_, rfl, rfl⟩ (Nat.le_of_ble_eq_true rfl) eX8_begin_20 (by decide) (fun k9 h9 q9 => Or.inr ⟨k9, rfl, Or.inr ⟨hqL, Or.inl ⟨q9.1.1, congrArg Sum.inr q9.1.2⟩⟩, q9.2⟩) (fun h6 e5 => ?_)
    obtain ⟨rfl, hqY⟩ := e5
    refine q_blk (lv2 := [(0, vr o), (1, vi pl), (2, vi x), (3, vi y)]) (st2 := [vr o]) kX8_begin_23 rfl ?_
    refine q_gr eX8_begin_24 fl_RX8_16 (Or.inl ⟨_, rfl⟩) c0_0 rfl ?_
    refine q_gi eX8_begin_27 fl_RX8_92 (Or.inl rfl) b0_0 (z := (D 3)) rfl ?_
    refine q_blk (lv2 := [(0, vr o), (1, vi pl), (2, vi x), (3, vi y)]) (st2 := [vi 6, vi (D 3)]) kX8_begin_30 rfl ?_
    refine AQ.ic_lt (tgt := 45) eX8_begin_32 (by decide) (by first | assumption | exact ⟨by omega, by omega⟩) ⟨by decide, by decide⟩ (fun br7 => ?_) (fun br7 => ?_)
    · skip
      refine q_blk (lv2 := [(0, vr o), (1, vi pl), (2, vi x), (3, vi y)]) (st2 := [vr o]) kX8_begin_45 rfl ?_
      refine q_gr eX8_begin_46 fl_RX8_51 (Or.inl ⟨_, rfl⟩) c0_0 rfl ?_
      refine q_blk (lv2 := [(0, vr o), (1, vi pl), (2, vi x), (3, vi y)]) (st2 := [vr o, vr r]) kX8_begin_49 rfl ?_
      refine q_gr eX8_begin_50 fl_RX8_16 (Or.inl ⟨_, rfl⟩) c0_0 rfl ?_
      refine AQ.callVv (av := [vr b]) (st := []) (c_X2_save hH_0 ⟨cm, hB_0, fun _ _ _ => rfl⟩ hD_0 (by omega)) lk_RX8_83 (by decide) rfl rfl hH_0.ob ⟨_, rfl, rfl⟩ (Nat.le_of_ble_eq_true rfl) eX8_begin_53 (fun h10 e9 => ?_)
      have Xh10 := CCS.save hX e9.2 e9.1
      obtain ⟨⟨-, -, -, -, -, -, -, oz_10⟩, c0_10, ⟨hXX_10, xr_10⟩, bl0_10, hB_10, ⟨hD_10, hE_10, hM_10, hS_10⟩, hA_10, hJ_10, hLJ_10, hR_10, ⟨fg_10, ll_10, hSC_10⟩, hH_10, hHs_10⟩ := id Xh10
      obtain ⟨⟨sx_10, sy_10, sv_10, ⟨b0_10, b1_10, b2_10, b3_10, b4_10, b5_10⟩, hst_10⟩, hall_10, hsh_10⟩ := id hB_10
      have d0_10 := hD_10.1
      have d1_10 := hD_10.2.1
      have d2_10 := hD_10.2.2.1
      have d3_10 := hD_10.2.2.2.1
      have hcr_10 : ∀ k8, 0 ≤ k8 → k8 < D 2 → -1 ≤ cm k8 ∧ cm k8 < 6 := fun k8 k0 k1 => (hM_10 k8 k0 k1).2
      have scz_10 := hS_10.2.2
      refine q_blk (lv2 := [(0, vr o), (1, vi pl), (2, vi x), (3, vi y)]) (st2 := [vr o]) kX8_begin_56 rfl ?_
      refine q_gr eX8_begin_57 fl_RX8_16 (Or.inl ⟨_, rfl⟩) c0_10 rfl ?_
      refine q_blk (lv2 := [(0, vr o), (1, vi pl), (2, vi x), (3, vi y)]) (st2 := [vi y, vi x, vr b]) kX8_begin_60 rfl ?_
      refine q_Vi (av := [vi x, vi y]) (st := []) (c_X0_isOccupied hB_10 hD_10 (x := x) (y := y) ⟨by omega, by omega⟩ ⟨by omega, by omega⟩) lk_RX8_212 (by decide) rfl rfl hB_10.ob ⟨_, rfl, rfl⟩ (Nat.le_of_ble_eq_true rfl) eX8_begin_62 (fun z12 e13 => ?_)
      rcases e13 with ⟨rfl, e13⟩ | ⟨rfl, e13⟩
      · skip
        refine AQ.of (AS.if_eq_f eX8_begin_65 ⟨by decide, by decide⟩ (by decide) (by decide)) ?_
        refine q_blk (lv2 := [(0, vr o), (1, vi pl), (2, vi x), (3, vi y)]) (st2 := [vi (-3)]) kX8_begin_68 rfl ?_
        exact q_ri rfl eX8_begin_70 (Or.inl ⟨(-3), rfl, ⟨hqL, hqY, by omega⟩, D, cm, Or.inl ⟨e13, rfl, rfl⟩, Xh10, ((am_go.rf.fr e9.2 (by omega) (by omega)) : am_go 0 h h10 o)⟩)
      · skip
        refine AQ.of (AS.if_eq_t (tgt := 71) eX8_begin_65 (by decide) ⟨by decide, by decide⟩ (by decide)) ?_
        refine q_blk (lv2 := [(0, vr o), (1, vi pl), (2, vi x), (3, vi y)]) (st2 := [vr o]) kX8_begin_71 rfl ?_
        refine q_gr eX8_begin_72 fl_RX8_16 (Or.inl ⟨_, rfl⟩) c0_10 rfl ?_
        refine q_blk (lv2 := [(0, vr o), (1, vi pl), (2, vi x), (3, vi y)]) (st2 := [vi y, vi x, vi pl, vr b]) kX8_begin_75 rfl ?_
        refine AQ.callVi (av := [vi pl, vi x, vi y]) (st := []) (c_X0_startShape hB_10 hD_10 (by omega) (o := pl) (x := x) (y := y)) lk_RX8_216 (by decide) rfl rfl hB_10.ob ⟨_, rfl, rfl⟩ (Nat.le_of_ble_eq_true rfl) eX8_begin_78 (fun z14 h16 e15 => ?_)
        obtain ⟨rfl, Bh16, Fh16⟩ := e15
        have Xh16 := CCS.bd Xh10 Fh16 Bh16 (gm_stP_vd hD_10 (by omega) ⟨by omega, by omega⟩ ⟨by omega, by omega⟩ ⟨by omega, by omega⟩) (gm_stP_ve hD_10 hE_10 (by omega)) (hM_10.stP hD_10 (by omega))
        exact q_ri rfl eX8_begin_81 (Or.inl ⟨(D 3), rfl, ⟨hqL, hqY, by omega⟩, (gm_stP D pl x y), cm, Or.inr ⟨e13, rfl, rfl⟩, Xh16, (((am_go.rf.fr e9.2 (by omega) (by omega)).fr Fh16 (by omega) (by omega)) : am_go 0 h h16 o)⟩)
    · skip
      exact AQ.throwS (i := 16) (k := 3) (by decide) rfl xk_3 xi_3 (by decide +kernel) xw_3 (by decide) (Nat.le_of_ble_eq_true rfl) eX8_begin_35 (by decide +kernel) eX8_begin_39 eX8_begin_41 eX8_begin_44 (by decide) (Or.inr ⟨3, rfl, (Or.inr ⟨hqL, Or.inr ⟨hqY, Or.inl ⟨by omega, rfl⟩⟩⟩), rfl⟩)
  · skip
    refine AQ.of (AS.if_ne_f eX8_begin_4 ⟨by decide, by decide⟩ (by decide) (by decide)) ?_
    exact AQ.throwS (i := 15) (k := 0) (by decide) rfl xk_0 xi_0 (by decide +kernel) xw_0 (by decide) (Nat.le_of_ble_eq_true rfl) eX8_begin_7 (by decide +kernel) eX8_begin_11 eX8_begin_13 eX8_begin_16 (by decide) (Or.inr ⟨0, rfl, Or.inl ⟨by omega, rfl⟩, rfl⟩)

set_option maxHeartbeats 4000000 in
theorem c_X8_corner {w : am_w} {h : AH} {o u b a j t s r : Nat} {D cm : Int → Int} {sc : Nat} {L : GL} {tx : Int → Int} {bl le : Int} {Hs : List GE} (hX : CCS h o u b a j t s r D cm sc L tx bl le Hs) {p x y : Int} (r_p : am_r p) (r_x : am_r x) (r_y : am_r y)  : AE w m_X8_corner 10 [vr o, vi p, vi x, vi y] h (am_ay h (gA_p D p (gA_xy D x y gm_F)) (fun z h1 => ((0 ≤ p ∧ p < D 3) ∧ (0 ≤ x ∧ x ≤ D 0) ∧ (0 ≤ y ∧ y ≤ D 1)) ∧ ∃ D' cm', gR_cor D p x y z D' ∧ CCS h1 o u b a j t s r D' cm' sc L tx bl le ((D, cm, sc, L) :: Hs.take 7) ∧ am_go 0 h h1 o)) := by
  refine AE.of wf_X8_corner (Nat.le_of_ble_eq_true rfl) (am_ok_ay) ?_
  obtain ⟨ou, ob, oa, oj, ot, os, orr, oz⟩ := id hX.1
  obtain ⟨⟨-, -, -, -, -, -, -, oz_0⟩, c0_0, ⟨hXX_0, xr_0⟩, bl0_0, hB_0, ⟨hD_0, hE_0, hM_0, hS_0⟩, hA_0, hJ_0, hLJ_0, hR_0, ⟨fg_0, ll_0, hSC_0⟩, hH_0, hHs_0⟩ := id hX
  obtain ⟨⟨sx_0, sy_0, sv_0, ⟨b0_0, b1_0, b2_0, b3_0, b4_0, b5_0⟩, hst_0⟩, hall_0, hsh_0⟩ := id hB_0
  have d0_0 := hD_0.1
  have d1_0 := hD_0.2.1
  have d2_0 := hD_0.2.2.1
  have d3_0 := hD_0.2.2.2.1
  have hcr_0 : ∀ k8, 0 ≤ k8 → k8 < D 2 → -1 ≤ cm k8 ∧ cm k8 < 6 := fun k8 k0 k1 => (hM_0 k8 k0 k1).2
  have scz_0 := hS_0.2.2
  refine q_blk (lv2 := [(0, vr o), (1, vi p), (2, vi x), (3, vi y)]) (st2 := [vi p, vr o]) kX8_corner_0 rfl ?_
  refine AQ.callxVv (av := [vi p]) (st := []) (c_X8_requirePolygon hX r_p) lk_RX8_133 (by decide) rfl rfl hX.ob ⟨_, rfl, rfl⟩ (Nat.le_of_ble_eq_true rfl) eX8_corner_2 (by decide) (fun k9 h9 q9 => Or.inr ⟨k9, rfl, Or.inl ⟨q9.1.1, congrArg Sum.inr q9.1.2⟩, q9.2⟩) (fun h4 e3 => ?_)
  obtain ⟨rfl, hqP⟩ := e3
  refine q_blk (lv2 := [(0, vr o), (1, vi p), (2, vi x), (3, vi y)]) (st2 := [vi y, vi x, vr o]) kX8_corner_5 rfl ?_
  refine AQ.callxVv (av := [vi x, vi y]) (st := []) (c_X8_requirePoint hX r_x r_y) lk_RX8_161 (by decide) rfl rfl hX.ob ⟨_, rfl, rfl⟩ (Nat.le_of_ble_eq_true rfl) eX8_corner_8 (by decide) (fun k9 h9 q9 => Or.inr ⟨k9, rfl, Or.inr ⟨hqP, Or.inl ⟨q9.1.1, congrArg Sum.inr q9.1.2⟩⟩, q9.2⟩) (fun h7 e6 => ?_)
  obtain ⟨rfl, hqY⟩ := e6
  refine q_blk (lv2 := [(0, vr o), (1, vi p), (2, vi x), (3, vi y)]) (st2 := [vr o]) kX8_corner_11 rfl ?_
  refine q_gr eX8_corner_12 fl_RX8_51 (Or.inl ⟨_, rfl⟩) c0_0 rfl ?_
  refine q_blk (lv2 := [(0, vr o), (1, vi p), (2, vi x), (3, vi y)]) (st2 := [vr o, vr r]) kX8_corner_15 rfl ?_
  refine q_gr eX8_corner_16 fl_RX8_16 (Or.inl ⟨_, rfl⟩) c0_0 rfl ?_
  refine AQ.callVv (av := [vr b]) (st := []) (c_X2_save hH_0 ⟨cm, hB_0, fun _ _ _ => rfl⟩ hD_0 (by omega)) lk_RX8_83 (by decide) rfl rfl hH_0.ob ⟨_, rfl, rfl⟩ (Nat.le_of_ble_eq_true rfl) eX8_corner_19 (fun h10 e9 => ?_)
  have Xh10 := CCS.save hX e9.2 e9.1
  obtain ⟨⟨-, -, -, -, -, -, -, oz_10⟩, c0_10, ⟨hXX_10, xr_10⟩, bl0_10, hB_10, ⟨hD_10, hE_10, hM_10, hS_10⟩, hA_10, hJ_10, hLJ_10, hR_10, ⟨fg_10, ll_10, hSC_10⟩, hH_10, hHs_10⟩ := id Xh10
  obtain ⟨⟨sx_10, sy_10, sv_10, ⟨b0_10, b1_10, b2_10, b3_10, b4_10, b5_10⟩, hst_10⟩, hall_10, hsh_10⟩ := id hB_10
  have d0_10 := hD_10.1
  have d1_10 := hD_10.2.1
  have d2_10 := hD_10.2.2.1
  have d3_10 := hD_10.2.2.2.1
  have hcr_10 : ∀ k8, 0 ≤ k8 → k8 < D 2 → -1 ≤ cm k8 ∧ cm k8 < 6 := fun k8 k0 k1 => (hM_10 k8 k0 k1).2
  have scz_10 := hS_10.2.2
  refine q_blk (lv2 := [(0, vr o), (1, vi p), (2, vi x), (3, vi y)]) (st2 := [vr o]) kX8_corner_22 rfl ?_
  refine q_gr eX8_corner_23 fl_RX8_28 (Or.inl ⟨_, rfl⟩) c0_10 rfl ?_
  refine q_blk (lv2 := [(0, vr o), (1, vi p), (2, vi x), (3, vi y)]) (st2 := [vi y, vi x, vi p, vr j]) kX8_corner_26 rfl ?_
  refine AQ.callVi (av := [vi p, vi x, vi y]) (st := []) (c_X3_reasonOfCorner hJ_10 hB_10 hD_10 hE_10 hLJ_10 (by omega) (by omega) (p := p) hqP.1 hqP.2 (h_x := ⟨by omega, by omega⟩) (h_y := ⟨by omega, by omega⟩)) lk_RX8_164 (by decide) rfl rfl hJ_10.ob ⟨_, rfl, rfl⟩ (Nat.le_of_ble_eq_true rfl) eX8_corner_29 (fun z12 h14 e13 => ?_)
  obtain ⟨Rh14, Lh14, Fh14⟩ := e13
  have Qh14 := gm_rC_r Rh14
  have Xh14 := CCS.fl Xh10 Fh14 Lh14
  obtain ⟨⟨-, -, -, -, -, -, -, oz_14⟩, c0_14, ⟨hXX_14, xr_14⟩, bl0_14, hB_14, ⟨hD_14, hE_14, hM_14, hS_14⟩, hA_14, hJ_14, hLJ_14, hR_14, ⟨fg_14, ll_14, hSC_14⟩, hH_14, hHs_14⟩ := id Xh14
  obtain ⟨⟨sx_14, sy_14, sv_14, ⟨b0_14, b1_14, b2_14, b3_14, b4_14, b5_14⟩, hst_14⟩, hall_14, hsh_14⟩ := id hB_14
  have d0_14 := hD_14.1
  have d1_14 := hD_14.2.1
  have d2_14 := hD_14.2.2.1
  have d3_14 := hD_14.2.2.2.1
  have hcr_14 : ∀ k8, 0 ≤ k8 → k8 < D 2 → -1 ≤ cm k8 ∧ cm k8 < 6 := fun k8 k0 k1 => (hM_14 k8 k0 k1).2
  have scz_14 := hS_14.2.2
  refine q_blk (lv2 := [(0, vr o), (1, vi p), (2, vi x), (3, vi y), (4, vi z12)]) (st2 := [vi z12]) kX8_corner_32 rfl ?_
  refine AQ.if_eq (tgt := 43) eX8_corner_36 (by decide) (by first | assumption | exact ⟨by omega, by omega⟩) (fun br16 => ?_) (fun br16 => ?_)
  · skip
    have R0 := Rh14
    rw [show z12 = 0 by omega] at R0
    have r0 := gm_rC_0 R0
    have hp0 := hD_14.2.2.2.2.2 p hqP.1 hqP.2
    refine q_blk (lv2 := [(0, vr o), (1, vi p), (2, vi x), (3, vi y), (4, vi z12)]) (st2 := [vr o]) kX8_corner_43 rfl ?_
    refine q_gr eX8_corner_44 fl_RX8_16 (Or.inl ⟨_, rfl⟩) c0_14 rfl ?_
    refine q_blk (lv2 := [(0, vr o), (1, vi p), (2, vi x), (3, vi y), (4, vi z12)]) (st2 := [vi p, vr b]) kX8_corner_47 rfl ?_
    refine q_Vr (av := [vi p]) (st := []) (c_X0_shapeAt hB_14 hD_14 (by omega) (by omega)) lk_RX8_136 (by decide) rfl rfl hB_14.ob ⟨_, rfl, rfl⟩ (Nat.le_of_ble_eq_true rfl) eX8_corner_48 (fun z17 e18 => ?_)
    subst e18
    have hS19 := hB_14.sh (p := p) (by omega) (by omega)
    obtain ⟨fx19, fy19, hP19, hn19, hc19, hx19⟩ := id hS19
    have hV19 := hD_14.vc (p := p) (by omega) (by omega)
    refine q_blk (lv2 := [(0, vr o), (1, vi p), (2, vi x), (3, vi y), (4, vi z12), (5, vr (b + 6 + 3 * (Int.toNat p)))]) (st2 := [vr (b + 6 + 3 * (Int.toNat p)), vr (b + 6 + 3 * (Int.toNat p))]) kX8_corner_51 rfl ?_
    refine q_gi eX8_corner_57 fl_RX8_145 (Or.inl rfl) hP19.1 (z := (pN D p)) rfl ?_
    refine q_blk (lv2 := [(0, vr o), (1, vi p), (2, vi x), (3, vi y), (4, vi z12), (5, vr (b + 6 + 3 * (Int.toNat p)))]) (st2 := [vi y, vi x, vi (pN D p), vr (b + 6 + 3 * (Int.toNat p))]) kX8_corner_60 rfl ?_
    refine AQ.callVv (av := [vi (pN D p), vi x, vi y]) (st := []) (c_X7_insert hS19 (by omega) (p := (pN D p)) (x := x) (y := y) (by omega) (by omega)) lk_RX8_219 (by decide) rfl rfl hS19.ob ⟨_, rfl, rfl⟩ (Nat.le_of_ble_eq_true rfl) eX8_corner_62 (fun h22 e21 => ?_)
    obtain ⟨Sh22, Gh22⟩ := e21
    have Fh22 := Gh22.mo (lo' := b) (hi' := b + 24) (by omega) (by omega)
    have Bh22 : BD h22 b (gm_adC D p x y) cm sc := BD.setP hB_14 hD_14 hqP.1 hqP.2 Sh22 Gh22
    have Xh22 := CCS.bd Xh14 Fh22 Bh22 (gm_adC_vd hD_14 hqP.1 hqP.2 r0.1 r0.2.1 hqY.1 hqY.2) (gm_adC_ve hD_14 hE_14 hqP.1 hqP.2 r0.2.1 r0.2.2) (hM_14.adC hD_14 hqP.1 hqP.2 r0.1)
    obtain ⟨⟨-, -, -, -, -, -, -, oz_22⟩, c0_22, ⟨hXX_22, xr_22⟩, bl0_22, hB_22, ⟨hD_22, hE_22, hM_22, hS_22⟩, hA_22, hJ_22, hLJ_22, hR_22, ⟨fg_22, ll_22, hSC_22⟩, hH_22, hHs_22⟩ := id Xh22
    obtain ⟨⟨sx_22, sy_22, sv_22, ⟨b0_22, b1_22, b2_22, b3_22, b4_22, b5_22⟩, hst_22⟩, hall_22, hsh_22⟩ := id hB_22
    have d0_22 := hD_22.1
    have d1_22 := hD_22.2.1
    have d2_22 := hD_22.2.2.1
    have d3_22 := hD_22.2.2.2.1
    have hcr_22 : ∀ k8, 0 ≤ k8 → k8 < (gm_adC D p x y) 2 → -1 ≤ cm k8 ∧ cm k8 < 6 := fun k8 k0 k1 => (hM_22 k8 k0 k1).2
    have scz_22 := hS_22.2.2
    obtain ⟨fx9, fy9, hP9, -⟩ := id Sh22
    refine q_blk (lv2 := [(0, vr o), (1, vi p), (2, vi x), (3, vi y), (4, vi z12), (5, vr (b + 6 + 3 * (Int.toNat p)))]) (st2 := [vr (b + 6 + 3 * (Int.toNat p))]) kX8_corner_65 rfl ?_
    refine q_gi eX8_corner_67 fl_RX8_145 (Or.inl rfl) hP9.1 (z := (pN D p + 1)) rfl ?_
    exact q_ri rfl eX8_corner_70 (Or.inl ⟨(pN D p + 1), rfl, ⟨hqP, hqY⟩, (gm_adC D p x y), cm, ⟨0, R0, Or.inr ⟨rfl, rfl, rfl⟩⟩, Xh22, ((((am_go.rf.fr e9.2 (by omega) (by omega)).fr Fh14 (by omega) (by omega)).fr Fh22 (by omega) (by omega)) : am_go 0 h h22 o)⟩)
  · skip
    refine q_blk (lv2 := [(0, vr o), (1, vi p), (2, vi x), (3, vi y), (4, vi z12)]) (st2 := [vi (-z12)]) kX8_corner_39 rfl ?_
    exact q_ri rfl eX8_corner_42 (Or.inl ⟨(-z12), rfl, ⟨hqP, hqY⟩, D, cm, ⟨_, Rh14, Or.inl ⟨by omega, rfl, rfl⟩⟩, Xh14, (((am_go.rf.fr e9.2 (by omega) (by omega)).fr Fh14 (by omega) (by omega)) : am_go 0 h h14 o)⟩)

set_option maxHeartbeats 4000000 in
theorem c_X8_close {w : am_w} {h : AH} {o u b a j t s r : Nat} {D cm : Int → Int} {sc : Nat} {L : GL} {tx : Int → Int} {bl le : Int} {Hs : List GE} (hX : CCS h o u b a j t s r D cm sc L tx bl le Hs) {p : Int} (r_p : am_r p)  : AE w m_X8_close 10 [vr o, vi p] h (am_ay h (gA_p D p gm_F) (fun z h1 => (0 ≤ p ∧ p < D 3) ∧ ∃ D' cm', gR_clo D p z D' cm' ∧ CCS h1 o u b a j t s r D' cm' sc L tx bl le ((D, cm, sc, L) :: Hs.take 7) ∧ am_go 0 h h1 o)) := by
  refine AE.of wf_X8_close (Nat.le_of_ble_eq_true rfl) (am_ok_ay) ?_
  obtain ⟨ou, ob, oa, oj, ot, os, orr, oz⟩ := id hX.1
  obtain ⟨⟨-, -, -, -, -, -, -, oz_0⟩, c0_0, ⟨hXX_0, xr_0⟩, bl0_0, hB_0, ⟨hD_0, hE_0, hM_0, hS_0⟩, hA_0, hJ_0, hLJ_0, hR_0, ⟨fg_0, ll_0, hSC_0⟩, hH_0, hHs_0⟩ := id hX
  obtain ⟨⟨sx_0, sy_0, sv_0, ⟨b0_0, b1_0, b2_0, b3_0, b4_0, b5_0⟩, hst_0⟩, hall_0, hsh_0⟩ := id hB_0
  have d0_0 := hD_0.1
  have d1_0 := hD_0.2.1
  have d2_0 := hD_0.2.2.1
  have d3_0 := hD_0.2.2.2.1
  have hcr_0 : ∀ k8, 0 ≤ k8 → k8 < D 2 → -1 ≤ cm k8 ∧ cm k8 < 6 := fun k8 k0 k1 => (hM_0 k8 k0 k1).2
  have scz_0 := hS_0.2.2
  refine q_blk (lv2 := [(0, vr o), (1, vi p)]) (st2 := [vi p, vr o]) kX8_close_0 rfl ?_
  refine AQ.callxVv (av := [vi p]) (st := []) (c_X8_requirePolygon hX r_p) lk_RX8_133 (by decide) rfl rfl hX.ob ⟨_, rfl, rfl⟩ (Nat.le_of_ble_eq_true rfl) eX8_close_2 (by decide) (fun k9 h9 q9 => Or.inr ⟨k9, rfl, Or.inl ⟨q9.1.1, congrArg Sum.inr q9.1.2⟩, q9.2⟩) (fun h4 e3 => ?_)
  obtain ⟨rfl, hqP⟩ := e3
  refine q_blk (lv2 := [(0, vr o), (1, vi p)]) (st2 := [vr o]) kX8_close_5 rfl ?_
  refine q_gr eX8_close_6 fl_RX8_51 (Or.inl ⟨_, rfl⟩) c0_0 rfl ?_
  refine q_blk (lv2 := [(0, vr o), (1, vi p)]) (st2 := [vr o, vr r]) kX8_close_9 rfl ?_
  refine q_gr eX8_close_10 fl_RX8_16 (Or.inl ⟨_, rfl⟩) c0_0 rfl ?_
  refine AQ.callVv (av := [vr b]) (st := []) (c_X2_save hH_0 ⟨cm, hB_0, fun _ _ _ => rfl⟩ hD_0 (by omega)) lk_RX8_83 (by decide) rfl rfl hH_0.ob ⟨_, rfl, rfl⟩ (Nat.le_of_ble_eq_true rfl) eX8_close_13 (fun h7 e6 => ?_)
  have Xh7 := CCS.save hX e6.2 e6.1
  obtain ⟨⟨-, -, -, -, -, -, -, oz_7⟩, c0_7, ⟨hXX_7, xr_7⟩, bl0_7, hB_7, ⟨hD_7, hE_7, hM_7, hS_7⟩, hA_7, hJ_7, hLJ_7, hR_7, ⟨fg_7, ll_7, hSC_7⟩, hH_7, hHs_7⟩ := id Xh7
  obtain ⟨⟨sx_7, sy_7, sv_7, ⟨b0_7, b1_7, b2_7, b3_7, b4_7, b5_7⟩, hst_7⟩, hall_7, hsh_7⟩ := id hB_7
  have d0_7 := hD_7.1
  have d1_7 := hD_7.2.1
  have d2_7 := hD_7.2.2.1
  have d3_7 := hD_7.2.2.2.1
  have hcr_7 : ∀ k8, 0 ≤ k8 → k8 < D 2 → -1 ≤ cm k8 ∧ cm k8 < 6 := fun k8 k0 k1 => (hM_7 k8 k0 k1).2
  have scz_7 := hS_7.2.2
  refine q_blk (lv2 := [(0, vr o), (1, vi p)]) (st2 := [vr o]) kX8_close_16 rfl ?_
  refine q_gr eX8_close_17 fl_RX8_28 (Or.inl ⟨_, rfl⟩) c0_7 rfl ?_
  refine q_blk (lv2 := [(0, vr o), (1, vi p)]) (st2 := [vi p, vr j]) kX8_close_20 rfl ?_
  refine AQ.callVi (av := [vi p]) (st := []) (c_X3_reasonOfClosing hJ_7 hB_7 hD_7 hE_7 hLJ_7 (by omega) (by omega) (p := p) hqP.1 hqP.2) lk_RX8_223 (by decide) rfl rfl hJ_7.ob ⟨_, rfl, rfl⟩ (Nat.le_of_ble_eq_true rfl) eX8_close_21 (fun z9 h11 e10 => ?_)
  obtain ⟨Rh11, Lh11, Fh11⟩ := e10
  have Qh11 := gm_rL_r Rh11
  have Xh11 := CCS.fl Xh7 Fh11 Lh11
  obtain ⟨⟨-, -, -, -, -, -, -, oz_11⟩, c0_11, ⟨hXX_11, xr_11⟩, bl0_11, hB_11, ⟨hD_11, hE_11, hM_11, hS_11⟩, hA_11, hJ_11, hLJ_11, hR_11, ⟨fg_11, ll_11, hSC_11⟩, hH_11, hHs_11⟩ := id Xh11
  obtain ⟨⟨sx_11, sy_11, sv_11, ⟨b0_11, b1_11, b2_11, b3_11, b4_11, b5_11⟩, hst_11⟩, hall_11, hsh_11⟩ := id hB_11
  have d0_11 := hD_11.1
  have d1_11 := hD_11.2.1
  have d2_11 := hD_11.2.2.1
  have d3_11 := hD_11.2.2.2.1
  have hcr_11 : ∀ k8, 0 ≤ k8 → k8 < D 2 → -1 ≤ cm k8 ∧ cm k8 < 6 := fun k8 k0 k1 => (hM_11 k8 k0 k1).2
  have scz_11 := hS_11.2.2
  refine q_blk (lv2 := [(0, vr o), (1, vi p), (2, vi z9)]) (st2 := [vi z9]) kX8_close_24 rfl ?_
  refine AQ.if_eq (tgt := 32) eX8_close_26 (by decide) (by first | assumption | exact ⟨by omega, by omega⟩) (fun br13 => ?_) (fun br13 => ?_)
  · skip
    have R0 := Rh11
    rw [show z9 = 0 by omega] at R0
    have r0 := gm_rL_0 R0
    have hp0 := hD_11.2.2.2.2.2 p hqP.1 hqP.2
    refine q_blk (lv2 := [(0, vr o), (1, vi p), (2, vi z9)]) (st2 := [vr o]) kX8_close_32 rfl ?_
    refine q_gr eX8_close_33 fl_RX8_16 (Or.inl ⟨_, rfl⟩) c0_11 rfl ?_
    refine q_blk (lv2 := [(0, vr o), (1, vi p), (2, vi z9)]) (st2 := [vi p, vr b]) kX8_close_36 rfl ?_
    refine q_Vr (av := [vi p]) (st := []) (c_X0_shapeAt hB_11 hD_11 (by omega) (by omega)) lk_RX8_136 (by decide) rfl rfl hB_11.ob ⟨_, rfl, rfl⟩ (Nat.le_of_ble_eq_true rfl) eX8_close_37 (fun z14 e15 => ?_)
    subst e15
    have hS16 := hB_11.sh (p := p) (by omega) (by omega)
    obtain ⟨fx16, fy16, hP16, hn16, hc16, hx16⟩ := id hS16
    have hV16 := hD_11.vc (p := p) (by omega) (by omega)
    refine q_blk (lv2 := [(0, vr o), (1, vi p), (2, vi z9)]) (st2 := [vi 1, vr (b + 6 + 3 * (Int.toNat p))]) kX8_close_40 rfl ?_
    refine q_pi eX8_close_41 fl_RX8_148 (fun q hq => by cases hq; exact Or.inl rfl) (Or.inr ⟨rfl, by first | decide | omega⟩) hP16.1 (Nat.le_of_ble_eq_true rfl) (l2 := [0, 0, (pO D p), (pN D p), 1]) rfl (fun h17 e18 => ?_)
    have k19 := (am_ne e18 b (by omega)).trans b0_11
    have k20 := (am_ne e18 (b + 1) (by omega)).trans b1_11
    have k21 := (am_ne e18 (b + 2) (by omega)).trans b2_11
    have k22 := (am_ne e18 (b + 3) (by omega)).trans b3_11
    have k23 := (am_ne e18 (b + 4) (by omega)).trans b4_11
    have k24 := (am_ne e18 (b + 5) (by omega)).trans b5_11
    have k25 := (am_ne e18 o (by omega)).trans c0_11
    have k26 := am_at e18
    have k27 := (am_ne e18 ((b + 6 + 3 * (Int.toNat p)) + 1) (by omega)).trans hP16.2.1
    have k28 := (am_ne e18 ((b + 6 + 3 * (Int.toNat p)) + 2) (by omega)).trans hP16.2.2
    have F9 : am_fr _ h17 b (b + 24) := am_fr.st e18 (by omega) (by omega)
    have B9 : BD h17 b (gm_clP D p) cm sc := BD.setP hB_11 hD_11 hqP.1 hqP.2 ⟨fx16, fy16, ⟨k26, k27, k28⟩, hn16, Or.inr rfl, hx16⟩ (am_fr.st e18 (by omega) (by omega))
    have V9 := gm_clP_vd hD_11 hqP.1 hqP.2 r0.2
    have E9 := gm_clP_ve hD_11 hE_11 hqP.1 hqP.2
    refine q_blk (lv2 := [(0, vr o), (1, vi p), (2, vi z9)]) (st2 := [vr o]) kX8_close_44 rfl ?_
    refine q_gr eX8_close_45 fl_RX8_16 (Or.inl ⟨_, rfl⟩) k25 rfl ?_
    refine AQ.callVv (av := []) (st := []) (c_X0_settleClaims B9 V9) lk_RX8_89 (by decide) rfl rfl B9.ob ⟨_, rfl, rfl⟩ (Nat.le_of_ble_eq_true rfl) eX8_close_48 (fun h31 e30 => ?_)
    obtain ⟨cm9, Bh31, Fh31, Mh31⟩ := e30
    have Xh31 := CCS.bd Xh11 (F9.tr Fh31) Bh31 V9 E9 Mh31
    obtain ⟨⟨-, -, -, -, -, -, -, oz_31⟩, c0_31, ⟨hXX_31, xr_31⟩, bl0_31, hB_31, ⟨hD_31, hE_31, hM_31, hS_31⟩, hA_31, hJ_31, hLJ_31, hR_31, ⟨fg_31, ll_31, hSC_31⟩, hH_31, hHs_31⟩ := id Xh31
    obtain ⟨⟨sx_31, sy_31, sv_31, ⟨b0_31, b1_31, b2_31, b3_31, b4_31, b5_31⟩, hst_31⟩, hall_31, hsh_31⟩ := id hB_31
    have d0_31 := hD_31.1
    have d1_31 := hD_31.2.1
    have d2_31 := hD_31.2.2.1
    have d3_31 := hD_31.2.2.2.1
    have hcr_31 : ∀ k8, 0 ≤ k8 → k8 < (gm_clP D p) 2 → -1 ≤ cm9 k8 ∧ cm9 k8 < 6 := fun k8 k0 k1 => (hM_31 k8 k0 k1).2
    have scz_31 := hS_31.2.2
    refine q_blk (lv2 := [(0, vr o), (1, vi p), (2, vi z9)]) (st2 := [vr o]) kX8_close_51 rfl ?_
    refine q_gr eX8_close_52 fl_RX8_16 (Or.inl ⟨_, rfl⟩) c0_31 rfl ?_
    refine q_blk (lv2 := [(0, vr o), (1, vi p), (2, vi z9)]) (st2 := [vi p, vr b]) kX8_close_55 rfl ?_
    refine q_Vi (av := [vi p]) (st := []) (c_X0_stonesOf hB_31 hD_31 hcr_31 (p := p) (by omega) (by omega)) lk_RX8_226 (by decide) rfl rfl hB_31.ob ⟨_, rfl, rfl⟩ (Nat.le_of_ble_eq_true rfl) eX8_close_56 (fun z33 e34 => ?_)
    subst e34
    exact q_ri rfl eX8_close_59 (Or.inl ⟨(gm_sm (gm_if cm9 p (fun _ => 1)) (gm_clP D p 2).toNat), rfl, ⟨hqP.1, hqP.2⟩, (gm_clP D p), cm9, ⟨0, R0, Or.inr ⟨rfl, rfl, rfl⟩⟩, Xh31, ((((am_go.rf.fr e6.2 (by omega) (by omega)).fr Fh11 (by omega) (by omega)).fr (F9.tr Fh31) (by omega) (by omega)) : am_go 0 h h31 o)⟩)
  · skip
    refine q_blk (lv2 := [(0, vr o), (1, vi p), (2, vi z9)]) (st2 := [vi (-z9)]) kX8_close_29 rfl ?_
    exact q_ri rfl eX8_close_31 (Or.inl ⟨(-z9), rfl, ⟨hqP.1, hqP.2⟩, D, cm, ⟨_, Rh11, Or.inl ⟨by omega, rfl, rfl⟩⟩, Xh11, (((am_go.rf.fr e6.2 (by omega) (by omega)).fr Fh11 (by omega) (by omega)) : am_go 0 h h11 o)⟩)

set_option maxHeartbeats 4000000 in
theorem c_X8_bend {w : am_w} {h : AH} {o u b a j t s r : Nat} {D cm : Int → Int} {sc : Nat} {L : GL} {tx : Int → Int} {bl le : Int} {Hs : List GE} (hX : CCS h o u b a j t s r D cm sc L tx bl le Hs) {p k x y : Int} (r_p : am_r p) (r_k : am_r k) (r_x : am_r x) (r_y : am_r y)  : AE w m_X8_bend 10 [vr o, vi p, vi k, vi x, vi y] h (am_ay h (gA_p D p (gA_k D p k (gA_xy D x y gm_F))) (fun z h1 => ((0 ≤ p ∧ p < D 3) ∧ (0 ≤ k ∧ k < pN D p) ∧ (0 ≤ x ∧ x ≤ D 0) ∧ (0 ≤ y ∧ y ≤ D 1)) ∧ ∃ D' cm', gR_ben D p k x y z D' ∧ CCS h1 o u b a j t s r D' cm' sc L tx bl le ((D, cm, sc, L) :: Hs.take 7) ∧ am_go 0 h h1 o)) := by
  refine AE.of wf_X8_bend (Nat.le_of_ble_eq_true rfl) (am_ok_ay) ?_
  obtain ⟨ou, ob, oa, oj, ot, os, orr, oz⟩ := id hX.1
  obtain ⟨⟨-, -, -, -, -, -, -, oz_0⟩, c0_0, ⟨hXX_0, xr_0⟩, bl0_0, hB_0, ⟨hD_0, hE_0, hM_0, hS_0⟩, hA_0, hJ_0, hLJ_0, hR_0, ⟨fg_0, ll_0, hSC_0⟩, hH_0, hHs_0⟩ := id hX
  obtain ⟨⟨sx_0, sy_0, sv_0, ⟨b0_0, b1_0, b2_0, b3_0, b4_0, b5_0⟩, hst_0⟩, hall_0, hsh_0⟩ := id hB_0
  have d0_0 := hD_0.1
  have d1_0 := hD_0.2.1
  have d2_0 := hD_0.2.2.1
  have d3_0 := hD_0.2.2.2.1
  have hcr_0 : ∀ k8, 0 ≤ k8 → k8 < D 2 → -1 ≤ cm k8 ∧ cm k8 < 6 := fun k8 k0 k1 => (hM_0 k8 k0 k1).2
  have scz_0 := hS_0.2.2
  refine q_blk (lv2 := [(0, vr o), (1, vi p), (2, vi k), (3, vi x), (4, vi y)]) (st2 := [vi p, vr o]) kX8_bend_0 rfl ?_
  refine AQ.callxVv (av := [vi p]) (st := []) (c_X8_requirePolygon hX r_p) lk_RX8_133 (by decide) rfl rfl hX.ob ⟨_, rfl, rfl⟩ (Nat.le_of_ble_eq_true rfl) eX8_bend_2 (by decide) (fun k9 h9 q9 => Or.inr ⟨k9, rfl, Or.inl ⟨q9.1.1, congrArg Sum.inr q9.1.2⟩, q9.2⟩) (fun h4 e3 => ?_)
  obtain ⟨rfl, hqP⟩ := e3
  refine q_blk (lv2 := [(0, vr o), (1, vi p), (2, vi k), (3, vi x), (4, vi y)]) (st2 := [vi k, vi p, vr o]) kX8_bend_5 rfl ?_
  refine AQ.callxVv (av := [vi p, vi k]) (st := []) (c_X8_requirePlace hX r_k hqP) lk_RX8_154 (by decide) rfl rfl hX.ob ⟨_, rfl, rfl⟩ (Nat.le_of_ble_eq_true rfl) eX8_bend_8 (by decide) (fun k9 h9 q9 => Or.inr ⟨k9, rfl, Or.inr ⟨hqP, Or.inl ⟨q9.1.1, congrArg Sum.inr q9.1.2⟩⟩, q9.2⟩) (fun h7 e6 => ?_)
  obtain ⟨rfl, hqK⟩ := e6
  refine q_blk (lv2 := [(0, vr o), (1, vi p), (2, vi k), (3, vi x), (4, vi y)]) (st2 := [vi y, vi x, vr o]) kX8_bend_11 rfl ?_
  refine AQ.callxVv (av := [vi x, vi y]) (st := []) (c_X8_requirePoint hX r_x r_y) lk_RX8_161 (by decide) rfl rfl hX.ob ⟨_, rfl, rfl⟩ (Nat.le_of_ble_eq_true rfl) eX8_bend_15 (by decide) (fun k9 h9 q9 => Or.inr ⟨k9, rfl, Or.inr ⟨hqP, Or.inr ⟨hqK, Or.inl ⟨q9.1.1, congrArg Sum.inr q9.1.2⟩⟩⟩, q9.2⟩) (fun h10 e9 => ?_)
  obtain ⟨rfl, hqY⟩ := e9
  refine q_blk (lv2 := [(0, vr o), (1, vi p), (2, vi k), (3, vi x), (4, vi y)]) (st2 := [vr o]) kX8_bend_18 rfl ?_
  refine q_gr eX8_bend_19 fl_RX8_51 (Or.inl ⟨_, rfl⟩) c0_0 rfl ?_
  refine q_blk (lv2 := [(0, vr o), (1, vi p), (2, vi k), (3, vi x), (4, vi y)]) (st2 := [vr o, vr r]) kX8_bend_22 rfl ?_
  refine q_gr eX8_bend_23 fl_RX8_16 (Or.inl ⟨_, rfl⟩) c0_0 rfl ?_
  refine AQ.callVv (av := [vr b]) (st := []) (c_X2_save hH_0 ⟨cm, hB_0, fun _ _ _ => rfl⟩ hD_0 (by omega)) lk_RX8_83 (by decide) rfl rfl hH_0.ob ⟨_, rfl, rfl⟩ (Nat.le_of_ble_eq_true rfl) eX8_bend_26 (fun h13 e12 => ?_)
  have Xh13 := CCS.save hX e12.2 e12.1
  obtain ⟨⟨-, -, -, -, -, -, -, oz_13⟩, c0_13, ⟨hXX_13, xr_13⟩, bl0_13, hB_13, ⟨hD_13, hE_13, hM_13, hS_13⟩, hA_13, hJ_13, hLJ_13, hR_13, ⟨fg_13, ll_13, hSC_13⟩, hH_13, hHs_13⟩ := id Xh13
  obtain ⟨⟨sx_13, sy_13, sv_13, ⟨b0_13, b1_13, b2_13, b3_13, b4_13, b5_13⟩, hst_13⟩, hall_13, hsh_13⟩ := id hB_13
  have d0_13 := hD_13.1
  have d1_13 := hD_13.2.1
  have d2_13 := hD_13.2.2.1
  have d3_13 := hD_13.2.2.2.1
  have hcr_13 : ∀ k8, 0 ≤ k8 → k8 < D 2 → -1 ≤ cm k8 ∧ cm k8 < 6 := fun k8 k0 k1 => (hM_13 k8 k0 k1).2
  have scz_13 := hS_13.2.2
  refine q_blk (lv2 := [(0, vr o), (1, vi p), (2, vi k), (3, vi x), (4, vi y)]) (st2 := [vr o]) kX8_bend_29 rfl ?_
  refine q_gr eX8_bend_30 fl_RX8_28 (Or.inl ⟨_, rfl⟩) c0_13 rfl ?_
  refine q_blk (lv2 := [(0, vr o), (1, vi p), (2, vi k), (3, vi x), (4, vi y)]) (st2 := [vi y, vi x, vi k, vi p, vr j]) kX8_bend_33 rfl ?_
  refine AQ.callVi (av := [vi p, vi k, vi x, vi y]) (st := []) (c_X3_reasonOfBend hJ_13 hB_13 hD_13 hE_13 hLJ_13 (by omega) (by omega) (p := p) hqP.1 hqP.2 (k := k) hqK.1 hqK.2 (h_x := ⟨by omega, by omega⟩) (h_y := ⟨by omega, by omega⟩)) lk_RX8_229 (by decide) rfl rfl hJ_13.ob ⟨_, rfl, rfl⟩ (Nat.le_of_ble_eq_true rfl) eX8_bend_38 (fun z15 h17 e16 => ?_)
  obtain ⟨Rh17, Lh17, Fh17⟩ := e16
  have Qh17 := gm_rB_r Rh17
  have Xh17 := CCS.fl Xh13 Fh17 Lh17
  obtain ⟨⟨-, -, -, -, -, -, -, oz_17⟩, c0_17, ⟨hXX_17, xr_17⟩, bl0_17, hB_17, ⟨hD_17, hE_17, hM_17, hS_17⟩, hA_17, hJ_17, hLJ_17, hR_17, ⟨fg_17, ll_17, hSC_17⟩, hH_17, hHs_17⟩ := id Xh17
  obtain ⟨⟨sx_17, sy_17, sv_17, ⟨b0_17, b1_17, b2_17, b3_17, b4_17, b5_17⟩, hst_17⟩, hall_17, hsh_17⟩ := id hB_17
  have d0_17 := hD_17.1
  have d1_17 := hD_17.2.1
  have d2_17 := hD_17.2.2.1
  have d3_17 := hD_17.2.2.2.1
  have hcr_17 : ∀ k8, 0 ≤ k8 → k8 < D 2 → -1 ≤ cm k8 ∧ cm k8 < 6 := fun k8 k0 k1 => (hM_17 k8 k0 k1).2
  have scz_17 := hS_17.2.2
  refine q_blk (lv2 := [(0, vr o), (1, vi p), (2, vi k), (3, vi x), (4, vi y), (5, vi z15)]) (st2 := [vi z15]) kX8_bend_41 rfl ?_
  refine AQ.if_eq (tgt := 52) eX8_bend_45 (by decide) (by first | assumption | exact ⟨by omega, by omega⟩) (fun br19 => ?_) (fun br19 => ?_)
  · skip
    have R0 := Rh17
    rw [show z15 = 0 by omega] at R0
    have r0 := gm_rB_0 R0
    have hp0 := hD_17.2.2.2.2.2 p hqP.1 hqP.2
    refine q_blk (lv2 := [(0, vr o), (1, vi p), (2, vi k), (3, vi x), (4, vi y), (5, vi z15)]) (st2 := [vr o]) kX8_bend_52 rfl ?_
    refine q_gr eX8_bend_53 fl_RX8_16 (Or.inl ⟨_, rfl⟩) c0_17 rfl ?_
    refine q_blk (lv2 := [(0, vr o), (1, vi p), (2, vi k), (3, vi x), (4, vi y), (5, vi z15)]) (st2 := [vi p, vr b]) kX8_bend_56 rfl ?_
    refine q_Vr (av := [vi p]) (st := []) (c_X0_shapeAt hB_17 hD_17 (by omega) (by omega)) lk_RX8_136 (by decide) rfl rfl hB_17.ob ⟨_, rfl, rfl⟩ (Nat.le_of_ble_eq_true rfl) eX8_bend_57 (fun z20 e21 => ?_)
    subst e21
    have hS22 := hB_17.sh (p := p) (by omega) (by omega)
    obtain ⟨fx22, fy22, hP22, hn22, hc22, hx22⟩ := id hS22
    have hV22 := hD_17.vc (p := p) (by omega) (by omega)
    refine q_blk (lv2 := [(0, vr o), (1, vi p), (2, vi k), (3, vi x), (4, vi y), (5, vi z15), (6, vr (b + 6 + 3 * (Int.toNat p)))]) (st2 := [vi y, vi x, vi (k + 1), vr (b + 6 + 3 * (Int.toNat p))]) kX8_bend_60 rfl ?_
    refine AQ.callVv (av := [vi (k + 1), vi x, vi y]) (st := []) (c_X7_insert hS22 (by omega) (p := (k + 1)) (x := x) (y := y) (by omega) (by omega)) lk_RX8_219 (by decide) rfl rfl hS22.ob ⟨_, rfl, rfl⟩ (Nat.le_of_ble_eq_true rfl) eX8_bend_70 (fun h25 e24 => ?_)
    obtain ⟨Sh25, Gh25⟩ := e24
    have Fh25 := Gh25.mo (lo' := b) (hi' := b + 24) (by omega) (by omega)
    have Bh25 : BD h25 b (gm_bnD D p k x y) cm sc := BD.setP hB_17 hD_17 hqP.1 hqP.2 Sh25 Gh25
    have Vh25 := (gm_bnD_vd hD_17 hqP.1 hqP.2 r0.1 r0.2.1 hqK.1 hqK.2 hqY.1 hqY.2)
    have Eh25 := (gm_bnD_ve hD_17 hE_17 hqP.1 hqP.2 r0.2.1 hqK.1 hqK.2 r0.2.2)
    have k26 := (Fh25.2 o (by omega)).trans c0_17
    refine q_blk (lv2 := [(0, vr o), (1, vi p), (2, vi k), (3, vi x), (4, vi y), (5, vi z15), (6, vr (b + 6 + 3 * (Int.toNat p)))]) (st2 := [vr o]) kX8_bend_73 rfl ?_
    refine q_gr eX8_bend_74 fl_RX8_16 (Or.inl ⟨_, rfl⟩) k26 rfl ?_
    refine AQ.callVv (av := []) (st := []) (c_X0_settleClaims Bh25 Vh25) lk_RX8_89 (by decide) rfl rfl Bh25.ob ⟨_, rfl, rfl⟩ (Nat.le_of_ble_eq_true rfl) eX8_bend_77 (fun h29 e28 => ?_)
    obtain ⟨cm9, Bh29, Fh29, Mh29⟩ := e28
    have Xh29 := CCS.bd Xh17 (Fh25.tr Fh29) Bh29 Vh25 Eh25 Mh29
    obtain ⟨⟨-, -, -, -, -, -, -, oz_29⟩, c0_29, ⟨hXX_29, xr_29⟩, bl0_29, hB_29, ⟨hD_29, hE_29, hM_29, hS_29⟩, hA_29, hJ_29, hLJ_29, hR_29, ⟨fg_29, ll_29, hSC_29⟩, hH_29, hHs_29⟩ := id Xh29
    obtain ⟨⟨sx_29, sy_29, sv_29, ⟨b0_29, b1_29, b2_29, b3_29, b4_29, b5_29⟩, hst_29⟩, hall_29, hsh_29⟩ := id hB_29
    have d0_29 := hD_29.1
    have d1_29 := hD_29.2.1
    have d2_29 := hD_29.2.2.1
    have d3_29 := hD_29.2.2.2.1
    have hcr_29 : ∀ k8, 0 ≤ k8 → k8 < (gm_bnD D p k x y) 2 → -1 ≤ cm9 k8 ∧ cm9 k8 < 6 := fun k8 k0 k1 => (hM_29 k8 k0 k1).2
    have scz_29 := hS_29.2.2
    have t9 : (gm_bnD D p k x y) 3 = D 3 := gm_setP_o (by omega)
    have hS31 := hB_29.sh (p := p) (by omega) (by omega)
    obtain ⟨fx31, fy31, hP31, hn31, hc31, hx31⟩ := id hS31
    have hV31 := hD_29.vc (p := p) (by omega) (by omega)
    refine q_blk (lv2 := [(0, vr o), (1, vi p), (2, vi k), (3, vi x), (4, vi y), (5, vi z15), (6, vr (b + 6 + 3 * (Int.toNat p)))]) (st2 := [vr (b + 6 + 3 * (Int.toNat p))]) kX8_bend_80 rfl ?_
    refine q_Vi (av := []) (st := []) (c_X7_doubledArea hS31 hV31) lk_RX8_175 (by decide) rfl rfl hS31.ob ⟨_, rfl, rfl⟩ (Nat.le_of_ble_eq_true rfl) eX8_bend_82 (fun z32 e33 => ?_)
    subst e33
    exact q_ri rfl eX8_bend_85 (Or.inl ⟨(gm_abs (gm_ar (pN (gm_bnD D p k x y) p) (pX (gm_bnD D p k x y) p) (pY (gm_bnD D p k x y) p))), rfl, ⟨hqP, hqK, hqY⟩, (gm_bnD D p k x y), cm9, ⟨0, R0, Or.inr ⟨rfl, rfl, rfl⟩⟩, Xh29, ((((am_go.rf.fr e12.2 (by omega) (by omega)).fr Fh17 (by omega) (by omega)).fr (Fh25.tr Fh29) (by omega) (by omega)) : am_go 0 h h29 o)⟩)
  · skip
    refine q_blk (lv2 := [(0, vr o), (1, vi p), (2, vi k), (3, vi x), (4, vi y), (5, vi z15)]) (st2 := [vi (-z15)]) kX8_bend_48 rfl ?_
    exact q_ri rfl eX8_bend_51 (Or.inl ⟨(-z15), rfl, ⟨hqP, hqK, hqY⟩, D, cm, ⟨_, Rh17, Or.inl ⟨by omega, rfl, rfl⟩⟩, Xh17, (((am_go.rf.fr e12.2 (by omega) (by omega)).fr Fh17 (by omega) (by omega)) : am_go 0 h h17 o)⟩)

set_option maxHeartbeats 4000000 in
theorem c_X8_takeOut {w : am_w} {h : AH} {o u b a j t s r : Nat} {D cm : Int → Int} {sc : Nat} {L : GL} {tx : Int → Int} {bl le : Int} {Hs : List GE} (hX : CCS h o u b a j t s r D cm sc L tx bl le Hs) {p k : Int} (r_p : am_r p) (r_k : am_r k)  : AE w m_X8_takeOut 10 [vr o, vi p, vi k] h (am_ay h (gA_p D p (gA_k D p k gm_F)) (fun z h1 => ((0 ≤ p ∧ p < D 3) ∧ (0 ≤ k ∧ k < pN D p)) ∧ ∃ D' cm', gR_out D p k z D' ∧ CCS h1 o u b a j t s r D' cm' sc L tx bl le ((D, cm, sc, L) :: Hs.take 7) ∧ am_go 0 h h1 o)) := by
  refine AE.of wf_X8_takeOut (Nat.le_of_ble_eq_true rfl) (am_ok_ay) ?_
  obtain ⟨ou, ob, oa, oj, ot, os, orr, oz⟩ := id hX.1
  obtain ⟨⟨-, -, -, -, -, -, -, oz_0⟩, c0_0, ⟨hXX_0, xr_0⟩, bl0_0, hB_0, ⟨hD_0, hE_0, hM_0, hS_0⟩, hA_0, hJ_0, hLJ_0, hR_0, ⟨fg_0, ll_0, hSC_0⟩, hH_0, hHs_0⟩ := id hX
  obtain ⟨⟨sx_0, sy_0, sv_0, ⟨b0_0, b1_0, b2_0, b3_0, b4_0, b5_0⟩, hst_0⟩, hall_0, hsh_0⟩ := id hB_0
  have d0_0 := hD_0.1
  have d1_0 := hD_0.2.1
  have d2_0 := hD_0.2.2.1
  have d3_0 := hD_0.2.2.2.1
  have hcr_0 : ∀ k8, 0 ≤ k8 → k8 < D 2 → -1 ≤ cm k8 ∧ cm k8 < 6 := fun k8 k0 k1 => (hM_0 k8 k0 k1).2
  have scz_0 := hS_0.2.2
  refine q_blk (lv2 := [(0, vr o), (1, vi p), (2, vi k)]) (st2 := [vi p, vr o]) kX8_takeOut_0 rfl ?_
  refine AQ.callxVv (av := [vi p]) (st := []) (c_X8_requirePolygon hX r_p) lk_RX8_133 (by decide) rfl rfl hX.ob ⟨_, rfl, rfl⟩ (Nat.le_of_ble_eq_true rfl) eX8_takeOut_2 (by decide) (fun k9 h9 q9 => Or.inr ⟨k9, rfl, Or.inl ⟨q9.1.1, congrArg Sum.inr q9.1.2⟩, q9.2⟩) (fun h4 e3 => ?_)
  obtain ⟨rfl, hqP⟩ := e3
  refine q_blk (lv2 := [(0, vr o), (1, vi p), (2, vi k)]) (st2 := [vi k, vi p, vr o]) kX8_takeOut_5 rfl ?_
  refine AQ.callxVv (av := [vi p, vi k]) (st := []) (c_X8_requirePlace hX r_k hqP) lk_RX8_154 (by decide) rfl rfl hX.ob ⟨_, rfl, rfl⟩ (Nat.le_of_ble_eq_true rfl) eX8_takeOut_8 (by decide) (fun k9 h9 q9 => Or.inr ⟨k9, rfl, Or.inr ⟨hqP, Or.inl ⟨q9.1.1, congrArg Sum.inr q9.1.2⟩⟩, q9.2⟩) (fun h7 e6 => ?_)
  obtain ⟨rfl, hqK⟩ := e6
  refine q_blk (lv2 := [(0, vr o), (1, vi p), (2, vi k)]) (st2 := [vr o]) kX8_takeOut_11 rfl ?_
  refine q_gr eX8_takeOut_12 fl_RX8_51 (Or.inl ⟨_, rfl⟩) c0_0 rfl ?_
  refine q_blk (lv2 := [(0, vr o), (1, vi p), (2, vi k)]) (st2 := [vr o, vr r]) kX8_takeOut_15 rfl ?_
  refine q_gr eX8_takeOut_16 fl_RX8_16 (Or.inl ⟨_, rfl⟩) c0_0 rfl ?_
  refine AQ.callVv (av := [vr b]) (st := []) (c_X2_save hH_0 ⟨cm, hB_0, fun _ _ _ => rfl⟩ hD_0 (by omega)) lk_RX8_83 (by decide) rfl rfl hH_0.ob ⟨_, rfl, rfl⟩ (Nat.le_of_ble_eq_true rfl) eX8_takeOut_19 (fun h10 e9 => ?_)
  have Xh10 := CCS.save hX e9.2 e9.1
  obtain ⟨⟨-, -, -, -, -, -, -, oz_10⟩, c0_10, ⟨hXX_10, xr_10⟩, bl0_10, hB_10, ⟨hD_10, hE_10, hM_10, hS_10⟩, hA_10, hJ_10, hLJ_10, hR_10, ⟨fg_10, ll_10, hSC_10⟩, hH_10, hHs_10⟩ := id Xh10
  obtain ⟨⟨sx_10, sy_10, sv_10, ⟨b0_10, b1_10, b2_10, b3_10, b4_10, b5_10⟩, hst_10⟩, hall_10, hsh_10⟩ := id hB_10
  have d0_10 := hD_10.1
  have d1_10 := hD_10.2.1
  have d2_10 := hD_10.2.2.1
  have d3_10 := hD_10.2.2.2.1
  have hcr_10 : ∀ k8, 0 ≤ k8 → k8 < D 2 → -1 ≤ cm k8 ∧ cm k8 < 6 := fun k8 k0 k1 => (hM_10 k8 k0 k1).2
  have scz_10 := hS_10.2.2
  refine q_blk (lv2 := [(0, vr o), (1, vi p), (2, vi k)]) (st2 := [vr o]) kX8_takeOut_22 rfl ?_
  refine q_gr eX8_takeOut_23 fl_RX8_28 (Or.inl ⟨_, rfl⟩) c0_10 rfl ?_
  refine q_blk (lv2 := [(0, vr o), (1, vi p), (2, vi k)]) (st2 := [vi k, vi p, vr j]) kX8_takeOut_26 rfl ?_
  refine AQ.callVi (av := [vi p, vi k]) (st := []) (c_X3_reasonOfTakingOut hJ_10 hB_10 hD_10 hE_10 hLJ_10 (by omega) (by omega) (p := p) hqP.1 hqP.2 (k := k) hqK.1 hqK.2) lk_RX8_233 (by decide) rfl rfl hJ_10.ob ⟨_, rfl, rfl⟩ (Nat.le_of_ble_eq_true rfl) eX8_takeOut_28 (fun z12 h14 e13 => ?_)
  obtain ⟨Rh14, Lh14, Fh14⟩ := e13
  have Qh14 := gm_rT_r Rh14
  have Xh14 := CCS.fl Xh10 Fh14 Lh14
  obtain ⟨⟨-, -, -, -, -, -, -, oz_14⟩, c0_14, ⟨hXX_14, xr_14⟩, bl0_14, hB_14, ⟨hD_14, hE_14, hM_14, hS_14⟩, hA_14, hJ_14, hLJ_14, hR_14, ⟨fg_14, ll_14, hSC_14⟩, hH_14, hHs_14⟩ := id Xh14
  obtain ⟨⟨sx_14, sy_14, sv_14, ⟨b0_14, b1_14, b2_14, b3_14, b4_14, b5_14⟩, hst_14⟩, hall_14, hsh_14⟩ := id hB_14
  have d0_14 := hD_14.1
  have d1_14 := hD_14.2.1
  have d2_14 := hD_14.2.2.1
  have d3_14 := hD_14.2.2.2.1
  have hcr_14 : ∀ k8, 0 ≤ k8 → k8 < D 2 → -1 ≤ cm k8 ∧ cm k8 < 6 := fun k8 k0 k1 => (hM_14 k8 k0 k1).2
  have scz_14 := hS_14.2.2
  refine q_blk (lv2 := [(0, vr o), (1, vi p), (2, vi k), (3, vi z12)]) (st2 := [vi z12]) kX8_takeOut_31 rfl ?_
  refine AQ.if_eq (tgt := 39) eX8_takeOut_33 (by decide) (by first | assumption | exact ⟨by omega, by omega⟩) (fun br16 => ?_) (fun br16 => ?_)
  · skip
    have R0 := Rh14
    rw [show z12 = 0 by omega] at R0
    have r0 := gm_rT_0 R0
    have hp0 := hD_14.2.2.2.2.2 p hqP.1 hqP.2
    refine q_blk (lv2 := [(0, vr o), (1, vi p), (2, vi k), (3, vi z12)]) (st2 := [vr o]) kX8_takeOut_39 rfl ?_
    refine q_gr eX8_takeOut_40 fl_RX8_16 (Or.inl ⟨_, rfl⟩) c0_14 rfl ?_
    refine q_blk (lv2 := [(0, vr o), (1, vi p), (2, vi k), (3, vi z12)]) (st2 := [vi p, vr b]) kX8_takeOut_43 rfl ?_
    refine q_Vr (av := [vi p]) (st := []) (c_X0_shapeAt hB_14 hD_14 (by omega) (by omega)) lk_RX8_136 (by decide) rfl rfl hB_14.ob ⟨_, rfl, rfl⟩ (Nat.le_of_ble_eq_true rfl) eX8_takeOut_44 (fun z17 e18 => ?_)
    subst e18
    have hS19 := hB_14.sh (p := p) (by omega) (by omega)
    obtain ⟨fx19, fy19, hP19, hn19, hc19, hx19⟩ := id hS19
    have hV19 := hD_14.vc (p := p) (by omega) (by omega)
    refine q_blk (lv2 := [(0, vr o), (1, vi p), (2, vi k), (3, vi z12), (4, vr (b + 6 + 3 * (Int.toNat p)))]) (st2 := [vi k, vr (b + 6 + 3 * (Int.toNat p))]) kX8_takeOut_47 rfl ?_
    refine AQ.callVv (av := [vi k]) (st := []) (c_X7_dropCorner hS19 (p := k) (by omega) (by omega)) lk_RX8_236 (by decide) rfl rfl hS19.ob ⟨_, rfl, rfl⟩ (Nat.le_of_ble_eq_true rfl) eX8_takeOut_52 (fun h22 e21 => ?_)
    obtain ⟨Sh22, Gh22⟩ := e21
    have Fh22 := Gh22.mo (lo' := b) (hi' := b + 24) (by omega) (by omega)
    have Bh22 : BD h22 b (gm_toD D p k) cm sc := BD.setP hB_14 hD_14 hqP.1 hqP.2 Sh22 Gh22
    have Vh22 := (gm_toD_vd hD_14 hqP.1 hqP.2 r0.1 r0.2 hqK.1 hqK.2)
    have Eh22 := (gm_toD_ve hD_14 hE_14 hqP.1 hqP.2 hqK.1 hqK.2)
    have k23 := (Fh22.2 o (by omega)).trans c0_14
    refine q_blk (lv2 := [(0, vr o), (1, vi p), (2, vi k), (3, vi z12), (4, vr (b + 6 + 3 * (Int.toNat p)))]) (st2 := [vr o]) kX8_takeOut_55 rfl ?_
    refine q_gr eX8_takeOut_56 fl_RX8_16 (Or.inl ⟨_, rfl⟩) k23 rfl ?_
    refine AQ.callVv (av := []) (st := []) (c_X0_settleClaims Bh22 Vh22) lk_RX8_89 (by decide) rfl rfl Bh22.ob ⟨_, rfl, rfl⟩ (Nat.le_of_ble_eq_true rfl) eX8_takeOut_59 (fun h26 e25 => ?_)
    obtain ⟨cm9, Bh26, Fh26, Mh26⟩ := e25
    have Xh26 := CCS.bd Xh14 (Fh22.tr Fh26) Bh26 Vh22 Eh22 Mh26
    obtain ⟨⟨-, -, -, -, -, -, -, oz_26⟩, c0_26, ⟨hXX_26, xr_26⟩, bl0_26, hB_26, ⟨hD_26, hE_26, hM_26, hS_26⟩, hA_26, hJ_26, hLJ_26, hR_26, ⟨fg_26, ll_26, hSC_26⟩, hH_26, hHs_26⟩ := id Xh26
    obtain ⟨⟨sx_26, sy_26, sv_26, ⟨b0_26, b1_26, b2_26, b3_26, b4_26, b5_26⟩, hst_26⟩, hall_26, hsh_26⟩ := id hB_26
    have d0_26 := hD_26.1
    have d1_26 := hD_26.2.1
    have d2_26 := hD_26.2.2.1
    have d3_26 := hD_26.2.2.2.1
    have hcr_26 : ∀ k8, 0 ≤ k8 → k8 < (gm_toD D p k) 2 → -1 ≤ cm9 k8 ∧ cm9 k8 < 6 := fun k8 k0 k1 => (hM_26 k8 k0 k1).2
    have scz_26 := hS_26.2.2
    have t9 : (gm_toD D p k) 3 = D 3 := gm_setP_o (by omega)
    have hS28 := hB_26.sh (p := p) (by omega) (by omega)
    obtain ⟨fx28, fy28, hP28, hn28, hc28, hx28⟩ := id hS28
    have hV28 := hD_26.vc (p := p) (by omega) (by omega)
    refine q_blk (lv2 := [(0, vr o), (1, vi p), (2, vi k), (3, vi z12), (4, vr (b + 6 + 3 * (Int.toNat p)))]) (st2 := [vr (b + 6 + 3 * (Int.toNat p))]) kX8_takeOut_62 rfl ?_
    refine q_Vi (av := []) (st := []) (c_X7_doubledArea hS28 hV28) lk_RX8_175 (by decide) rfl rfl hS28.ob ⟨_, rfl, rfl⟩ (Nat.le_of_ble_eq_true rfl) eX8_takeOut_64 (fun z29 e30 => ?_)
    subst e30
    exact q_ri rfl eX8_takeOut_67 (Or.inl ⟨(gm_abs (gm_ar (pN (gm_toD D p k) p) (pX (gm_toD D p k) p) (pY (gm_toD D p k) p))), rfl, ⟨hqP, hqK⟩, (gm_toD D p k), cm9, ⟨0, R0, Or.inr ⟨rfl, rfl, rfl⟩⟩, Xh26, ((((am_go.rf.fr e9.2 (by omega) (by omega)).fr Fh14 (by omega) (by omega)).fr (Fh22.tr Fh26) (by omega) (by omega)) : am_go 0 h h26 o)⟩)
  · skip
    refine q_blk (lv2 := [(0, vr o), (1, vi p), (2, vi k), (3, vi z12)]) (st2 := [vi (-z12)]) kX8_takeOut_36 rfl ?_
    exact q_ri rfl eX8_takeOut_38 (Or.inl ⟨(-z12), rfl, ⟨hqP, hqK⟩, D, cm, ⟨_, Rh14, Or.inl ⟨by omega, rfl, rfl⟩⟩, Xh14, (((am_go.rf.fr e9.2 (by omega) (by omega)).fr Fh14 (by omega) (by omega)) : am_go 0 h h14 o)⟩)

set_option maxHeartbeats 4000000 in
theorem c_X8_remove {w : am_w} {h : AH} {o u b a j t s r : Nat} {D cm : Int → Int} {sc : Nat} {L : GL} {tx : Int → Int} {bl le : Int} {Hs : List GE} (hX : CCS h o u b a j t s r D cm sc L tx bl le Hs) {p : Int} (r_p : am_r p)  : AE w m_X8_remove 10 [vr o, vi p] h (am_ay h (gA_p D p gm_F) (fun z h1 => (0 ≤ p ∧ p < D 3) ∧ ∃ D' cm', (z = gm_sm (gm_nf cm') (D' 2).toNat ∧ D' = gm_drP D p) ∧ CCS h1 o u b a j t s r D' cm' sc L tx bl le ((D, cm, sc, L) :: Hs.take 7) ∧ am_go 0 h h1 o)) := by
  refine AE.of wf_X8_remove (Nat.le_of_ble_eq_true rfl) (am_ok_ay) ?_
  obtain ⟨ou, ob, oa, oj, ot, os, orr, oz⟩ := id hX.1
  obtain ⟨⟨-, -, -, -, -, -, -, oz_0⟩, c0_0, ⟨hXX_0, xr_0⟩, bl0_0, hB_0, ⟨hD_0, hE_0, hM_0, hS_0⟩, hA_0, hJ_0, hLJ_0, hR_0, ⟨fg_0, ll_0, hSC_0⟩, hH_0, hHs_0⟩ := id hX
  obtain ⟨⟨sx_0, sy_0, sv_0, ⟨b0_0, b1_0, b2_0, b3_0, b4_0, b5_0⟩, hst_0⟩, hall_0, hsh_0⟩ := id hB_0
  have d0_0 := hD_0.1
  have d1_0 := hD_0.2.1
  have d2_0 := hD_0.2.2.1
  have d3_0 := hD_0.2.2.2.1
  have hcr_0 : ∀ k8, 0 ≤ k8 → k8 < D 2 → -1 ≤ cm k8 ∧ cm k8 < 6 := fun k8 k0 k1 => (hM_0 k8 k0 k1).2
  have scz_0 := hS_0.2.2
  refine q_blk (lv2 := [(0, vr o), (1, vi p)]) (st2 := [vi p, vr o]) kX8_remove_0 rfl ?_
  refine AQ.callxVv (av := [vi p]) (st := []) (c_X8_requirePolygon hX r_p) lk_RX8_133 (by decide) rfl rfl hX.ob ⟨_, rfl, rfl⟩ (Nat.le_of_ble_eq_true rfl) eX8_remove_2 (by decide) (fun k9 h9 q9 => Or.inr ⟨k9, rfl, Or.inl ⟨q9.1.1, congrArg Sum.inr q9.1.2⟩, q9.2⟩) (fun h4 e3 => ?_)
  obtain ⟨rfl, hqP⟩ := e3
  refine q_blk (lv2 := [(0, vr o), (1, vi p)]) (st2 := [vr o]) kX8_remove_5 rfl ?_
  refine q_gr eX8_remove_6 fl_RX8_51 (Or.inl ⟨_, rfl⟩) c0_0 rfl ?_
  refine q_blk (lv2 := [(0, vr o), (1, vi p)]) (st2 := [vr o, vr r]) kX8_remove_9 rfl ?_
  refine q_gr eX8_remove_10 fl_RX8_16 (Or.inl ⟨_, rfl⟩) c0_0 rfl ?_
  refine AQ.callVv (av := [vr b]) (st := []) (c_X2_save hH_0 ⟨cm, hB_0, fun _ _ _ => rfl⟩ hD_0 (by omega)) lk_RX8_83 (by decide) rfl rfl hH_0.ob ⟨_, rfl, rfl⟩ (Nat.le_of_ble_eq_true rfl) eX8_remove_13 (fun h7 e6 => ?_)
  have Xh7 := CCS.save hX e6.2 e6.1
  obtain ⟨⟨-, -, -, -, -, -, -, oz_7⟩, c0_7, ⟨hXX_7, xr_7⟩, bl0_7, hB_7, ⟨hD_7, hE_7, hM_7, hS_7⟩, hA_7, hJ_7, hLJ_7, hR_7, ⟨fg_7, ll_7, hSC_7⟩, hH_7, hHs_7⟩ := id Xh7
  obtain ⟨⟨sx_7, sy_7, sv_7, ⟨b0_7, b1_7, b2_7, b3_7, b4_7, b5_7⟩, hst_7⟩, hall_7, hsh_7⟩ := id hB_7
  have d0_7 := hD_7.1
  have d1_7 := hD_7.2.1
  have d2_7 := hD_7.2.2.1
  have d3_7 := hD_7.2.2.2.1
  have hcr_7 : ∀ k8, 0 ≤ k8 → k8 < D 2 → -1 ≤ cm k8 ∧ cm k8 < 6 := fun k8 k0 k1 => (hM_7 k8 k0 k1).2
  have scz_7 := hS_7.2.2
  refine q_blk (lv2 := [(0, vr o), (1, vi p)]) (st2 := [vr o]) kX8_remove_16 rfl ?_
  refine q_gr eX8_remove_17 fl_RX8_16 (Or.inl ⟨_, rfl⟩) c0_7 rfl ?_
  refine q_blk (lv2 := [(0, vr o), (1, vi p)]) (st2 := [vi p, vr b]) kX8_remove_20 rfl ?_
  refine AQ.callVv (av := [vi p]) (st := []) (c_X0_dropShape hB_7 hD_7 hqP.1 hqP.2) lk_RX8_239 (by decide) rfl rfl hB_7.ob ⟨_, rfl, rfl⟩ (Nat.le_of_ble_eq_true rfl) eX8_remove_21 (fun h11 e10 => ?_)
  obtain ⟨Bh11, Fh11⟩ := e10
  have Vh11 := gm_drP_vd hD_7 hqP.1 hqP.2
  have Eh11 := gm_drP_ve hD_7 hE_7 hqP.1 hqP.2
  have k12 := (Fh11.2 o (by omega)).trans c0_7
  refine q_blk (lv2 := [(0, vr o), (1, vi p)]) (st2 := [vr o]) kX8_remove_24 rfl ?_
  refine q_gr eX8_remove_25 fl_RX8_16 (Or.inl ⟨_, rfl⟩) k12 rfl ?_
  refine AQ.callVv (av := []) (st := []) (c_X0_settleClaims Bh11 Vh11) lk_RX8_89 (by decide) rfl rfl Bh11.ob ⟨_, rfl, rfl⟩ (Nat.le_of_ble_eq_true rfl) eX8_remove_28 (fun h15 e14 => ?_)
  obtain ⟨cm9, Bh15, Fh15, Mh15⟩ := e14
  have Xh15 := CCS.bd Xh7 (Fh11.tr Fh15) Bh15 Vh11 Eh11 Mh15
  obtain ⟨⟨-, -, -, -, -, -, -, oz_15⟩, c0_15, ⟨hXX_15, xr_15⟩, bl0_15, hB_15, ⟨hD_15, hE_15, hM_15, hS_15⟩, hA_15, hJ_15, hLJ_15, hR_15, ⟨fg_15, ll_15, hSC_15⟩, hH_15, hHs_15⟩ := id Xh15
  obtain ⟨⟨sx_15, sy_15, sv_15, ⟨b0_15, b1_15, b2_15, b3_15, b4_15, b5_15⟩, hst_15⟩, hall_15, hsh_15⟩ := id hB_15
  have d0_15 := hD_15.1
  have d1_15 := hD_15.2.1
  have d2_15 := hD_15.2.2.1
  have d3_15 := hD_15.2.2.2.1
  have hcr_15 : ∀ k8, 0 ≤ k8 → k8 < (gm_drP D p) 2 → -1 ≤ cm9 k8 ∧ cm9 k8 < 6 := fun k8 k0 k1 => (hM_15 k8 k0 k1).2
  have scz_15 := hS_15.2.2
  refine q_blk (lv2 := [(0, vr o), (1, vi p)]) (st2 := [vr o]) kX8_remove_31 rfl ?_
  refine q_gr eX8_remove_32 fl_RX8_16 (Or.inl ⟨_, rfl⟩) c0_15 rfl ?_
  refine q_Vi (av := []) (st := []) (c_X0_claimedStones hB_15 hD_15 hcr_15) lk_RX8_108 (by decide) rfl rfl hB_15.ob ⟨_, rfl, rfl⟩ (Nat.le_of_ble_eq_true rfl) eX8_remove_35 (fun z17 e18 => ?_)
  subst e18
  exact q_ri rfl eX8_remove_38 (Or.inl ⟨(gm_sm (gm_nf cm9) (gm_drP D p 2).toNat), rfl, ⟨hqP.1, hqP.2⟩, (gm_drP D p), cm9, ⟨rfl, rfl⟩, Xh15, (((am_go.rf.fr e6.2 (by omega) (by omega)).fr (Fh11.tr Fh15) (by omega) (by omega)) : am_go 0 h h15 o)⟩)

set_option maxHeartbeats 4000000 in
theorem c_X8_undo {w : am_w} {h : AH} {o u b a j t s r : Nat} {D cm : Int → Int} {sc : Nat} {L : GL} {tx : Int → Int} {bl le : Int} {Hs : List GE} (hX : CCS h o u b a j t s r D cm sc L tx bl le Hs)  : AE w m_X8_undo 10 [vr o] h (am_int (fun z h1 => ((Hs = [] ∧ z = -1 ∧ CCS h1 o u b a j t s r D cm sc L tx bl le Hs) ∨ ∃ e Hs', Hs = e :: Hs' ∧ z = (Hs'.length : Int) ∧ ∃ cm', CCS h1 o u b a j t s r e.1 cm' e.2.2.1 e.2.2.2 tx bl le Hs') ∧ am_go 0 h h1 o)) := by
  refine AE.of wf_X8_undo (Nat.le_of_ble_eq_true rfl) (am_ok_i) ?_
  obtain ⟨ou, ob, oa, oj, ot, os, orr, oz⟩ := id hX.1
  obtain ⟨⟨-, -, -, -, -, -, -, oz_0⟩, c0_0, ⟨hXX_0, xr_0⟩, bl0_0, hB_0, ⟨hD_0, hE_0, hM_0, hS_0⟩, hA_0, hJ_0, hLJ_0, hR_0, ⟨fg_0, ll_0, hSC_0⟩, hH_0, hHs_0⟩ := id hX
  obtain ⟨⟨sx_0, sy_0, sv_0, ⟨b0_0, b1_0, b2_0, b3_0, b4_0, b5_0⟩, hst_0⟩, hall_0, hsh_0⟩ := id hB_0
  have d0_0 := hD_0.1
  have d1_0 := hD_0.2.1
  have d2_0 := hD_0.2.2.1
  have d3_0 := hD_0.2.2.2.1
  have hcr_0 : ∀ k8, 0 ≤ k8 → k8 < D 2 → -1 ≤ cm k8 ∧ cm k8 < 6 := fun k8 k0 k1 => (hM_0 k8 k0 k1).2
  have scz_0 := hS_0.2.2
  refine q_blk (lv2 := [(0, vr o)]) (st2 := [vr o]) kX8_undo_0 rfl ?_
  refine q_gr eX8_undo_1 fl_RX8_51 (Or.inl ⟨_, rfl⟩) c0_0 rfl ?_
  refine q_blk (lv2 := [(0, vr o)]) (st2 := [vr o, vr r]) kX8_undo_4 rfl ?_
  refine q_gr eX8_undo_5 fl_RX8_16 (Or.inl ⟨_, rfl⟩) c0_0 rfl ?_
  refine AQ.callVi (av := [vr b]) (st := []) (c_X2_restore hH_0 (BD.ba hB_0) (by omega)) lk_RX8_242 (by decide) rfl rfl hH_0.ob ⟨_, rfl, rfl⟩ (Nat.le_of_ble_eq_true rfl) eX8_undo_8 (fun z2 h4 e3 => ?_)
  have U9 := CCS.undo hX e3
  exact q_ri rfl eX8_undo_11 ⟨z2, rfl, U9⟩
