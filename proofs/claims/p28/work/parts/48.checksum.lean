/-! CornerClaims: checksum. -/
set_option maxHeartbeats 4000000 in
theorem c_X8_checksum {w : am_w} {h : AH} {o u b a j t s r : Nat} {D cm : Int → Int} {sc : Nat} {L : GL} {tx : Int → Int} {bl le : Int} {Hs : List GE} (hX : CCS h o u b a j t s r D cm sc L tx bl le Hs)  : AE w m_X8_checksum 10 [vr o] h (am_lng (fun z h1 => z = gm_k3 (gm_pt D cm L) 4 (gm_k3 cm (D 2).toNat (gm_k1 D (D 3).toNat)) ∧ CCS h1 o u b a j t s r D cm sc L tx bl le Hs ∧ am_go 0 h h1 o)) := by
  refine AE.of wf_X8_checksum (Nat.le_of_ble_eq_true rfl) (am_ok_l) ?_
  obtain ⟨ou, ob, oa, oj, ot, os, orr, oz⟩ := id hX.1
  obtain ⟨⟨-, -, -, -, -, -, -, oz_0⟩, c0_0, ⟨hXX_0, xr_0⟩, bl0_0, hB_0, ⟨hD_0, hE_0, hM_0, hS_0⟩, hA_0, hJ_0, hLJ_0, hR_0, ⟨fg_0, ll_0, hSC_0⟩, hH_0, hHs_0⟩ := id hX
  obtain ⟨⟨sx_0, sy_0, sv_0, ⟨b0_0, b1_0, b2_0, b3_0, b4_0, b5_0⟩, hst_0⟩, hall_0, hsh_0⟩ := id hB_0
  have d0_0 := hD_0.1
  have d1_0 := hD_0.2.1
  have d2_0 := hD_0.2.2.1
  have d3_0 := hD_0.2.2.2.1
  have hcr_0 : ∀ k8, 0 ≤ k8 → k8 < D 2 → -1 ≤ cm k8 ∧ cm k8 < 6 := fun k8 k0 k1 => (hM_0 k8 k0 k1).2
  have scz_0 := hS_0.2.2
  refine q_blk (lv2 := [(0, vr o), (1, vl 0), (3, vi 0)]) (st2 := []) kX8_checksum_0 rfl ?_
  refine am_lp2 (I := fun (v : Int) (i : Int) => (0 ≤ i ∧ i ≤ D 3) ∧ v = gm_k1 D i.toNat) (μ := fun (v : Int) (i : Int) => (D 3 - i).toNat) (G := fun (v : Int) (i : Int) => AQ w m_X8_checksum 10 4 [(0, vr o), (1, vl v), (3, vi i)] [] h (am_lng (fun z h1 => z = gm_k3 (gm_pt D cm L) 4 (gm_k3 cm (D 2).toNat (gm_k1 D (D 3).toNat)) ∧ CCS h1 o u b a j t s r D cm sc L tx bl le Hs ∧ am_go 0 h h1 o))) ?_ 0 0 (⟨⟨by omega, by omega⟩, rfl⟩)
  intro v i hI3 ih2
  obtain ⟨⟨i0, i1⟩, hv⟩ := hI3
  refine q_blk (lv2 := [(0, vr o), (1, vl v), (3, vi i)]) (st2 := [vr o, vi i]) kX8_checksum_4 rfl ?_
  refine q_gr eX8_checksum_6 fl_RX8_16 (Or.inl ⟨_, rfl⟩) c0_0 rfl ?_
  refine q_gi eX8_checksum_9 fl_RX8_92 (Or.inl rfl) b0_0 (z := (D 3)) rfl ?_
  refine AQ.ic_ge (tgt := 99) eX8_checksum_12 (by decide) (by first | assumption | exact ⟨by omega, by omega⟩) (by first | assumption | exact ⟨by omega, by omega⟩) (fun br4 => ?_) (fun br4 => ?_)
  · skip
    refine q_blk (lv2 := [(0, vr o), (1, vl v), (3, vi 0)]) (st2 := []) kX8_checksum_99 rfl ?_
    refine am_lp2 (I := fun (v3 : Int) (k : Int) => (0 ≤ k ∧ k ≤ D 2) ∧ v3 = gm_k3 cm k.toNat (gm_k1 D (D 3).toNat)) (μ := fun (v3 : Int) (k : Int) => (D 2 - k).toNat) (G := fun (v3 : Int) (k : Int) => AQ w m_X8_checksum 10 101 [(0, vr o), (1, vl v3), (3, vi k)] [] h (am_lng (fun z h1 => z = gm_k3 (gm_pt D cm L) 4 (gm_k3 cm (D 2).toNat (gm_k1 D (D 3).toNat)) ∧ CCS h1 o u b a j t s r D cm sc L tx bl le Hs ∧ am_go 0 h h1 o))) ?_ v 0 (⟨⟨by omega, by omega⟩, by rw [hv, show i = D 3 by omega]; rfl⟩)
    intro v3 k hI6 ih5
    obtain ⟨⟨k0, k1⟩, hw3⟩ := hI6
    refine q_blk (lv2 := [(0, vr o), (1, vl v3), (3, vi k)]) (st2 := [vr o, vi k]) kX8_checksum_101 rfl ?_
    refine q_gr eX8_checksum_103 fl_RX8_16 (Or.inl ⟨_, rfl⟩) c0_0 rfl ?_
    refine q_gi eX8_checksum_106 fl_RX8_101 (Or.inl rfl) b0_0 (z := (D 2)) rfl ?_
    refine AQ.ic_ge (tgt := 134) eX8_checksum_109 (by decide) (by first | assumption | exact ⟨by omega, by omega⟩) (by first | assumption | exact ⟨by omega, by omega⟩) (fun br7 => ?_) (fun br7 => ?_)
    · skip
      refine q_blk (lv2 := [(0, vr o), (1, vl v3), (3, vi 0)]) (st2 := []) kX8_checksum_134 rfl ?_
      refine am_lp3 (I := fun (v4 : Int) (pl : Int) (hh : AH) => (0 ≤ pl ∧ pl ≤ 4) ∧ v4 = gm_k3 (gm_pt D cm L) pl.toNat (gm_k3 cm (D 2).toNat (gm_k1 D (D 3).toNat)) ∧ CCS hh o u b a j t s r D cm sc L tx bl le Hs ∧ am_go 0 h hh o) (μ := fun (v4 : Int) (pl : Int) (hh : AH) => (4 - pl).toNat) (G := fun (v4 : Int) (pl : Int) (hh : AH) => AQ w m_X8_checksum 10 136 [(0, vr o), (1, vl v4), (3, vi pl)] [] hh (am_lng (fun z h1 => z = gm_k3 (gm_pt D cm L) 4 (gm_k3 cm (D 2).toNat (gm_k1 D (D 3).toNat)) ∧ CCS h1 o u b a j t s r D cm sc L tx bl le Hs ∧ am_go 0 h h1 o))) ?_ v3 0 h (⟨⟨by omega, by omega⟩, by rw [hw3, show k = D 2 by omega]; rfl, hX, am_go.rf⟩)
      intro v4 pl hh hI9 ih8
      obtain ⟨⟨p0, p1⟩, hw4, hX9, hg9⟩ := hI9
      obtain ⟨⟨-, -, -, -, -, -, -, oz_9⟩, c0_9, ⟨hXX_9, xr_9⟩, bl0_9, hB_9, ⟨hD_9, hE_9, hM_9, hS_9⟩, hA_9, hJ_9, hLJ_9, hR_9, ⟨fg_9, ll_9, hSC_9⟩, hH_9, hHs_9⟩ := id hX9
      obtain ⟨⟨sx_9, sy_9, sv_9, ⟨b0_9, b1_9, b2_9, b3_9, b4_9, b5_9⟩, hst_9⟩, hall_9, hsh_9⟩ := id hB_9
      have d0_9 := hD_9.1
      have d1_9 := hD_9.2.1
      have d2_9 := hD_9.2.2.1
      have d3_9 := hD_9.2.2.2.1
      have hcr_9 : ∀ k8, 0 ≤ k8 → k8 < D 2 → -1 ≤ cm k8 ∧ cm k8 < 6 := fun k8 k0 k1 => (hM_9 k8 k0 k1).2
      have scz_9 := hS_9.2.2
      have hv9 := gm_pt_r (cm := cm) (L := L) hX9.2.2.2.2.2.1.1 pl
      refine q_blk (lv2 := [(0, vr o), (1, vl v4), (3, vi pl)]) (st2 := [vi 3, vi pl]) kX8_checksum_136 rfl ?_
      refine AQ.ic_gt (tgt := 163) eX8_checksum_138 (by decide) (by first | assumption | exact ⟨by omega, by omega⟩) ⟨by decide, by decide⟩ (fun br11 => ?_) (fun br11 => ?_)
      · skip
        refine q_blk (lv2 := [(0, vr o), (1, vl v4), (3, vi pl)]) (st2 := [vl v4]) kX8_checksum_163 rfl ?_
        exact q_rl rfl eX8_checksum_164 ⟨v4, rfl, (by rw [hw4, show pl = 4 by omega]; rfl), hX9, hg9⟩
      · skip
        refine AQ.of (AS.ldc2 (z := 31) eX8_checksum_141 (am_gw 1525 (by decide +kernel) (by decide +kernel))) ?_
        refine q_blk (lv2 := [(0, vr o), (1, vl v4), (3, vi pl)]) (st2 := [vr o, vl (31 * v4)]) kX8_checksum_144 rfl ?_
        refine q_gr eX8_checksum_147 fl_RX8_44 (Or.inl ⟨_, rfl⟩) c0_9 rfl ?_
        refine q_blk (lv2 := [(0, vr o), (1, vl v4), (3, vi pl)]) (st2 := [vi pl, vr s, vl (31 * v4)]) kX8_checksum_150 rfl ?_
        refine AQ.callVi (av := [vi pl]) (st := [vl (31 * v4)]) (c_X5_sumOf hSC_9 hB_9 hD_9 hcr_9 hS_9.1 hS_9.2.1 (by omega) (by omega) (pl := pl) (by omega) (by omega)) lk_RX8_204 (by decide) rfl rfl hSC_9.ob ⟨_, rfl, rfl⟩ (Nat.le_of_ble_eq_true rfl) eX8_checksum_151 (fun z12 h14 e13 => ?_)
        obtain ⟨rfl, Sh14, Fh14⟩ := e13
        have Xh14 := CCS.fs hX9 Fh14 Sh14
        obtain ⟨⟨-, -, -, -, -, -, -, oz_14⟩, c0_14, ⟨hXX_14, xr_14⟩, bl0_14, hB_14, ⟨hD_14, hE_14, hM_14, hS_14⟩, hA_14, hJ_14, hLJ_14, hR_14, ⟨fg_14, ll_14, hSC_14⟩, hH_14, hHs_14⟩ := id Xh14
        obtain ⟨⟨sx_14, sy_14, sv_14, ⟨b0_14, b1_14, b2_14, b3_14, b4_14, b5_14⟩, hst_14⟩, hall_14, hsh_14⟩ := id hB_14
        have d0_14 := hD_14.1
        have d1_14 := hD_14.2.1
        have d2_14 := hD_14.2.2.1
        have d3_14 := hD_14.2.2.2.1
        have hcr_14 : ∀ k8, 0 ≤ k8 → k8 < D 2 → -1 ≤ cm k8 ∧ cm k8 < 6 := fun k8 k0 k1 => (hM_14 k8 k0 k1).2
        have scz_14 := hS_14.2.2
        refine AQ.of (AS.i2l eX8_checksum_154 (by first | assumption | exact ⟨by omega, by omega⟩)) ?_
        refine q_blk (lv2 := [(0, vr o), (1, vl ((31 * v4) + (gm_pt D cm L pl))), (3, vi (pl + 1))]) (st2 := []) kX8_checksum_155 rfl ?_
        refine q_goto (tgt := 136) eX8_checksum_160 (by decide) ?_
        exact ih8 ((31 * v4) + (gm_pt D cm L pl)) (pl + 1) h14 (⟨⟨by omega, by omega⟩, by rw [gm_k3_s p0, ← hw4], Xh14, (hg9.fr Fh14 (by omega) (by omega))⟩) (by omega)
    · skip
      refine AQ.of (AS.ldc2 (z := 31) eX8_checksum_112 (am_gw 1525 (by decide +kernel) (by decide +kernel))) ?_
      refine q_blk (lv2 := [(0, vr o), (1, vl v3), (3, vi k)]) (st2 := [vr o, vl (31 * v3)]) kX8_checksum_115 rfl ?_
      have hcm := hcr_0 k k0 (by omega)
      refine q_gr eX8_checksum_118 fl_RX8_16 (Or.inl ⟨_, rfl⟩) c0_0 rfl ?_
      refine q_blk (lv2 := [(0, vr o), (1, vl v3), (3, vi k)]) (st2 := [vi k, vr b, vl (31 * v3)]) kX8_checksum_121 rfl ?_
      refine q_Vi (av := [vi k]) (st := [vl (31 * v3)]) (c_X0_claimOf hB_0 hD_0 (by omega) (by omega)) lk_RX8_128 (by decide) rfl rfl hB_0.ob ⟨_, rfl, rfl⟩ (Nat.le_of_ble_eq_true rfl) eX8_checksum_122 (fun z16 e17 => ?_)
      subst e17
      refine AQ.of (AS.i2l eX8_checksum_125 (by first | assumption | exact ⟨by omega, by omega⟩)) ?_
      refine q_blk (lv2 := [(0, vr o), (1, vl ((31 * v3) + (cm k))), (3, vi (k + 1))]) (st2 := []) kX8_checksum_126 rfl ?_
      refine q_goto (tgt := 101) eX8_checksum_131 (by decide) ?_
      exact ih5 ((31 * v3) + (cm k)) (k + 1) (⟨⟨by omega, by omega⟩, by rw [gm_k3_s k0, ← hw3]⟩) (by omega)
  · skip
    refine q_blk (lv2 := [(0, vr o), (1, vl v), (3, vi i)]) (st2 := [vr o]) kX8_checksum_15 rfl ?_
    refine q_gr eX8_checksum_16 fl_RX8_16 (Or.inl ⟨_, rfl⟩) c0_0 rfl ?_
    refine q_blk (lv2 := [(0, vr o), (1, vl v), (3, vi i)]) (st2 := [vi i, vr b]) kX8_checksum_19 rfl ?_
    have hp9 := hD_0.2.2.2.2.2 i i0 (by omega)
    refine q_Vr (av := [vi i]) (st := []) (c_X0_shapeAt hB_0 hD_0 (by omega) (by omega)) lk_RX8_136 (by decide) rfl rfl hB_0.ob ⟨_, rfl, rfl⟩ (Nat.le_of_ble_eq_true rfl) eX8_checksum_20 (fun z18 e19 => ?_)
    subst e19
    have hS20 := hB_0.sh (p := i) (by omega) (by omega)
    obtain ⟨fx20, fy20, hP20, hn20, hc20, hx20⟩ := id hS20
    have hV20 := hD_0.vc (p := i) (by omega) (by omega)
    refine q_blk (lv2 := [(0, vr o), (1, vl v), (3, vi i), (4, vr (b + 6 + 3 * (Int.toNat i)))]) (st2 := []) kX8_checksum_23 rfl ?_
    refine AQ.of (AS.ldc2 (z := 31) eX8_checksum_25 (am_gw 1525 (by decide +kernel) (by decide +kernel))) ?_
    refine q_blk (lv2 := [(0, vr o), (1, vl v), (3, vi i), (4, vr (b + 6 + 3 * (Int.toNat i)))]) (st2 := [vr (b + 6 + 3 * (Int.toNat i)), vl (31 * v)]) kX8_checksum_28 rfl ?_
    refine q_gi eX8_checksum_32 fl_RX8_140 (Or.inl rfl) hP20.1 (z := (pO D i)) rfl ?_
    refine AQ.of (AS.i2l eX8_checksum_35 (by first | assumption | exact ⟨by omega, by omega⟩)) ?_
    refine q_blk (lv2 := [(0, vr o), (1, vl ((31 * v) + (pO D i))), (3, vi i), (4, vr (b + 6 + 3 * (Int.toNat i)))]) (st2 := []) kX8_checksum_36 rfl ?_
    refine AQ.of (AS.ldc2 (z := 31) eX8_checksum_38 (am_gw 1525 (by decide +kernel) (by decide +kernel))) ?_
    refine q_blk (lv2 := [(0, vr o), (1, vl ((31 * v) + (pO D i))), (3, vi i), (4, vr (b + 6 + 3 * (Int.toNat i)))]) (st2 := [vr (b + 6 + 3 * (Int.toNat i)), vl (31 * ((31 * v) + (pO D i)))]) kX8_checksum_41 rfl ?_
    refine q_gi eX8_checksum_45 fl_RX8_148 (Or.inr rfl) hP20.1 (z := (pC D i)) rfl ?_
    have jn56 : ∀ (cz : Int), cz = pC D i → AQ w m_X8_checksum 10 56 [(0, vr o), (1, vl ((31 * v) + (pO D i))), (3, vi i), (4, vr (b + 6 + 3 * (Int.toNat i)))] [vi cz, vl (31 * ((31 * v) + (pO D i)))] h (am_lng (fun z h1 => z = gm_k3 (gm_pt D cm L) 4 (gm_k3 cm (D 2).toNat (gm_k1 D (D 3).toNat)) ∧ CCS h1 o u b a j t s r D cm sc L tx bl le Hs ∧ am_go 0 h h1 o)) := by
      intro cz hj
      refine AQ.of (AS.i2l eX8_checksum_56 (by first | assumption | exact ⟨by omega, by omega⟩)) ?_
      refine q_blk (lv2 := [(0, vr o), (1, vl ((31 * ((31 * v) + (pO D i))) + cz)), (3, vi i), (4, vr (b + 6 + 3 * (Int.toNat i))), (5, vi 0)]) (st2 := []) kX8_checksum_57 rfl ?_
      refine am_lp2 (I := fun (v2 : Int) (q : Int) => (0 ≤ q ∧ q ≤ pN D i) ∧ v2 = gm_k2 D i q.toNat (31 * (31 * v + pO D i) + cz)) (μ := fun (v2 : Int) (q : Int) => (pN D i - q).toNat) (G := fun (v2 : Int) (q : Int) => AQ w m_X8_checksum 10 62 [(0, vr o), (1, vl v2), (3, vi i), (4, vr (b + 6 + 3 * (Int.toNat i))), (5, vi q)] [] h (am_lng (fun z h1 => z = gm_k3 (gm_pt D cm L) 4 (gm_k3 cm (D 2).toNat (gm_k1 D (D 3).toNat)) ∧ CCS h1 o u b a j t s r D cm sc L tx bl le Hs ∧ am_go 0 h h1 o))) ?_ ((31 * ((31 * v) + (pO D i))) + cz) 0 (⟨⟨by omega, by omega⟩, rfl⟩)
      intro v2 q hI22 ih21
      obtain ⟨⟨q0, q1⟩, hw⟩ := hI22
      refine q_blk (lv2 := [(0, vr o), (1, vl v2), (3, vi i), (4, vr (b + 6 + 3 * (Int.toNat i))), (5, vi q)]) (st2 := [vr (b + 6 + 3 * (Int.toNat i)), vi q]) kX8_checksum_62 rfl ?_
      refine q_gi eX8_checksum_66 fl_RX8_145 (Or.inl rfl) hP20.1 (z := (pN D i)) rfl ?_
      refine AQ.ic_ge (tgt := 93) eX8_checksum_69 (by decide) (by first | assumption | exact ⟨by omega, by omega⟩) (by first | assumption | exact ⟨by omega, by omega⟩) (fun br23 => ?_) (fun br23 => ?_)
      · skip
        refine q_blk (lv2 := [(0, vr o), (1, vl v2), (3, vi (i + 1)), (4, vr (b + 6 + 3 * (Int.toNat i))), (5, vi q)]) (st2 := []) kX8_checksum_93 rfl ?_
        refine q_goto (tgt := 4) eX8_checksum_96 (by decide) ?_
        refine q_sub (lv2 := [(0, vr o), (1, vl v2), (3, vi (i + 1))]) [0, 1, 2] rfl ?_
        exact ih2 v2 (i + 1) (⟨⟨by omega, by omega⟩, by rw [gm_k1_s i0, ← hv, ← hj, show (pN D i).toNat = q.toNat by omega]; exact hw⟩) (by omega)
      · skip
        refine AQ.of (AS.ldc2 (z := 31) eX8_checksum_72 (am_gw 1525 (by decide +kernel) (by decide +kernel))) ?_
        refine q_blk (lv2 := [(0, vr o), (1, vl v2), (3, vi i), (4, vr (b + 6 + 3 * (Int.toNat i))), (5, vi q)]) (st2 := [vi q, vr (b + 6 + 3 * (Int.toNat i)), vl (31 * v2)]) kX8_checksum_75 rfl ?_
        have hc9 := hp9.2.2.2 q q0 (by omega)
        refine q_Vi (av := [vi q]) (st := [vl (31 * v2)]) (c_X7_codeOfCorner hS20 (by omega) (by omega)) lk_RX8_158 (by decide) rfl rfl hS20.ob ⟨_, rfl, rfl⟩ (Nat.le_of_ble_eq_true rfl) eX8_checksum_81 (fun z24 e25 => ?_)
        subst e25
        refine AQ.of (AS.i2l eX8_checksum_84 (by first | assumption | exact ⟨by omega, by omega⟩)) ?_
        refine q_blk (lv2 := [(0, vr o), (1, vl ((31 * v2) + (100 * (pX D i) q + (pY D i) q))), (3, vi i), (4, vr (b + 6 + 3 * (Int.toNat i))), (5, vi (q + 1))]) (st2 := []) kX8_checksum_85 rfl ?_
        refine q_goto (tgt := 62) eX8_checksum_90 (by decide) ?_
        exact ih21 ((31 * v2) + (100 * (pX D i) q + (pY D i) q)) (q + 1) (⟨⟨by omega, by omega⟩, by rw [gm_k2_s q0, ← hw]⟩) (by omega)
    refine AQ.if_eq (tgt := 55) eX8_checksum_48 (by decide) (by first | assumption | exact ⟨by omega, by omega⟩) (fun br26 => ?_) (fun br26 => ?_)
    · skip
      refine q_blk (lv2 := [(0, vr o), (1, vl ((31 * v) + (pO D i))), (3, vi i), (4, vr (b + 6 + 3 * (Int.toNat i)))]) (st2 := [vi 0, vl (31 * ((31 * v) + (pO D i)))]) kX8_checksum_55 rfl ?_
      exact jn56 0 (by omega)
    · skip
      refine q_blk (lv2 := [(0, vr o), (1, vl ((31 * v) + (pO D i))), (3, vi i), (4, vr (b + 6 + 3 * (Int.toNat i)))]) (st2 := [vi 1, vl (31 * ((31 * v) + (pO D i)))]) kX8_checksum_51 rfl ?_
      refine q_goto (tgt := 56) eX8_checksum_52 (by decide) ?_
      exact jn56 1 (by omega)
