/-! CornerClaims: scores, reasons; what changes the object. -/
/-- an answer and a state after it, or an exception of that number, and nothing else -/
def am_ay (h : AH) (A : Int ⊕ Nat → Prop) (S : Int → AH → Prop) : RV → AH → Prop := am_or (am_int S) (fun k h1 => A (.inr k) ∧ h1 = gm_thr h)
theorem am_ok_ay {h : AH} {A : Int ⊕ Nat → Prop} {S : Int → AH → Prop} : ∀ v h', am_ay h A S (.inl v) h' → am_okr (some .int) v := am_ok_or am_ok_i
def gA_pl (pl : Int) (A : Int ⊕ Nat → Prop) (r : Int ⊕ Nat) : Prop := (¬ (0 ≤ pl ∧ pl ≤ 3) ∧ r = .inr 0) ∨ ((0 ≤ pl ∧ pl ≤ 3) ∧ A r)
def gm_F : Int ⊕ Nat → Prop := fun _ => False
/-- the best of the first -/
def gm_bst (f : Int → Int) : Nat → Int × Int
  | 0 => (0, f 0)
  | n + 1 => if (gm_bst f n).2 < f ((n : Int) + 1) then ((n : Int) + 1, f ((n : Int) + 1)) else gm_bst f n
theorem HL.ob {h : AH} {t : Nat} {l : List ((Int → Int) × (Int → Int) × Nat)} (k : HL h t l) : am_ob h t 1 := by
  obtain ⟨nx, n1, c0, -⟩ := k
  exact ⟨_, _, _, c0⟩
theorem gm_rB_0 {D : Int → Int} {p k x y : Int} (h : gm_rB D p k x y 0) : pC D p = 1 ∧ pN D p < 12 ∧ ¬ gm_tk D x y := by
  rcases h with ⟨a, e⟩ | ⟨a, ⟨b, e⟩ | ⟨b, ⟨c, e⟩ | ⟨c, e⟩⟩⟩
  · omega
  · omega
  · omega
  · exact ⟨a, b, c⟩
theorem gm_rT_0 {D : Int → Int} {p k : Int} (h : gm_rT D p k 0) : pC D p = 1 ∧ 3 < pN D p := by
  rcases h with ⟨a, e⟩ | ⟨a, ⟨b, e⟩ | ⟨b, e⟩⟩
  · omega
  · omega
  · exact ⟨a, b⟩
theorem gm_rB_r {D : Int → Int} {p k x y z : Int} (h : gm_rB D p k x y z) : 0 ≤ z ∧ z ≤ 6 := by
  rcases h with ⟨a, e⟩ | ⟨a, ⟨b, e⟩ | ⟨b, ⟨c, e⟩ | ⟨c, z1, e, ⟨n, e2⟩ | ⟨n, e2⟩⟩⟩⟩
  · omega
  · omega
  · omega
  · have := gm_lr_r e; omega
  · have := gm_lr_r e2; omega
theorem gm_rT_r {D : Int → Int} {p k z : Int} (h : gm_rT D p k z) : 0 ≤ z ∧ z ≤ 6 := by
  rcases h with ⟨a, e⟩ | ⟨a, ⟨b, e⟩ | ⟨b, e⟩⟩ <;> first | omega | (have := gm_lr_r e; omega)
/-- a corner is put into a side; one is taken out -/
def gm_bnD (D : Int → Int) (p k x y : Int) : Int → Int := gm_setP D p (pN D p + 1) (pC D p) (gm_in (k + 1) x (pX D p)) (gm_in (k + 1) y (pY D p))
def gm_toD (D : Int → Int) (p k : Int) : Int → Int := gm_setP D p (pN D p - 1) (pC D p) (gm_ou k (pX D p)) (gm_ou k (pY D p))
theorem gm_bnD_vd {D : Int → Int} (hD : VD D) {p k x y : Int} (p0 : 0 ≤ p) (p1 : p < D 3) (hc : pC D p = 1) (hn : pN D p < 12) (k0 : 0 ≤ k) (k1 : k < pN D p) (hx : 0 ≤ x ∧ x ≤ D 0) (hy : 0 ≤ y ∧ y ≤ D 1) : VD (gm_bnD D p k x y) := by
  have h := hD.2.2.2.2.2 p p0 p1
  exact gm_setP_vd hD p0 (by omega) (Or.inr ⟨hc, by omega⟩) (gm_in_vd hx hy (by omega) (by omega) h.2.2.2)
theorem gm_bnD_ve {D : Int → Int} (hD : VD D) (hE : VE D) {p k x y : Int} (p0 : 0 ≤ p) (p1 : p < D 3) (hn : pN D p < 12) (k0 : 0 ≤ k) (k1 : k < pN D p) (ht : ¬ gm_tk D x y) : VE (gm_bnD D p k x y) := by
  have h := hD.2.2.2.2.2 p p0 p1
  exact gm_setP_ve hD hE p0 (by omega) (gm_in_ve (by omega) (by omega) (fun k k0 k1 => by have := gm_tk_ne ht p0 p1 k0 k1; omega) (fun k m k0 km m1 => hE p k m p0 p1 k0 km m1))
theorem gm_toD_vd {D : Int → Int} (hD : VD D) {p k : Int} (p0 : 0 ≤ p) (p1 : p < D 3) (hc : pC D p = 1) (hn : 3 < pN D p) (k0 : 0 ≤ k) (k1 : k < pN D p) : VD (gm_toD D p k) := by
  have h := hD.2.2.2.2.2 p p0 p1
  refine gm_setP_vd hD p0 (by omega) (Or.inr ⟨hc, by omega⟩) (fun q q0 q1 => ?_)
  unfold gm_ou
  split
  · exact h.2.2.2 q q0 (by omega)
  · exact h.2.2.2 (q + 1) (by omega) (by omega)
theorem gm_toD_ve {D : Int → Int} (hD : VD D) (hE : VE D) {p k : Int} (p0 : 0 ≤ p) (p1 : p < D 3) (k0 : 0 ≤ k) (k1 : k < pN D p) : VE (gm_toD D p k) := by
  have h := hD.2.2.2.2.2 p p0 p1
  refine gm_setP_ve hD hE p0 (by omega) (fun q m q0 qm m1 => ?_)
  unfold gm_ou
  split
  · split
    · exact hE p q m p0 p1 q0 qm (by omega)
    · exact hE p q (m + 1) p0 p1 q0 (by omega) (by omega)
  · split
    · omega
    · exact hE p (q + 1) (m + 1) p0 p1 (by omega) (by omega) (by omega)
theorem gm_drP_o {D : Int → Int} {p i : Int} (h1 : i ≠ 3) (h2 : i < 66 + 27 * p) : gm_drP D p i = D i := by
  unfold gm_drP
  rw [if_neg h1, if_neg (by omega)]
theorem gm_drP_s {D : Int → Int} {p i : Int} (p0 : 0 ≤ p) (h1 : 66 + 27 * p ≤ i) (h2 : i < 228) : gm_drP D p i = D (i + 27) := by
  unfold gm_drP
  rw [if_neg (by omega), if_pos ⟨h1, h2⟩]
theorem gm_drP_3 {D : Int → Int} {p : Int} : gm_drP D p 3 = D 3 - 1 := by unfold gm_drP; rw [if_pos rfl]
/-- polygon q of what is left is this one of before -/
theorem gm_drP_q {D : Int → Int} {p q : Int} (p0 : 0 ≤ p) (q0 : 0 ≤ q) (q1 : q < 5) : pO (gm_drP D p) q = pO D (gm_di p q) ∧ pN (gm_drP D p) q = pN D (gm_di p q) ∧ pC (gm_drP D p) q = pC D (gm_di p q) ∧ ∀ k, 0 ≤ k → k < 12 → pX (gm_drP D p) q k = pX D (gm_di p q) k ∧ pY (gm_drP D p) q k = pY D (gm_di p q) k := by
  unfold gm_di
  by_cases c : q < p
  · rw [if_pos c]
    exact ⟨gm_drP_o (by omega) (by omega), gm_drP_o (by omega) (by omega), gm_drP_o (by omega) (by omega), fun k k0 k1 => ⟨gm_drP_o (by omega) (by omega), gm_drP_o (by omega) (by omega)⟩⟩
  · rw [if_neg c]
    refine ⟨(gm_drP_s p0 (by omega) (by omega)).trans (congrArg D (by omega)), (gm_drP_s p0 (by omega) (by omega)).trans (congrArg D (by omega)), (gm_drP_s p0 (by omega) (by omega)).trans (congrArg D (by omega)), fun k k0 k1 => ⟨(gm_drP_s p0 (by omega) (by omega)).trans (congrArg D (by omega)), (gm_drP_s p0 (by omega) (by omega)).trans (congrArg D (by omega))⟩⟩
theorem gm_drP_vd {D : Int → Int} (hD : VD D) {p : Int} (p0 : 0 ≤ p) (p1 : p < D 3) : VD (gm_drP D p) := by
  obtain ⟨v0, v1, v2, v3, v4, v5⟩ := hD
  unfold VD
  rw [gm_drP_o (i := 0) (by omega) (by omega), gm_drP_o (i := 1) (by omega) (by omega), gm_drP_o (i := 2) (by omega) (by omega), gm_drP_3]
  refine ⟨v0, v1, v2, by omega, fun k k0 k1 => ?_, fun q q0 q1 => ?_⟩
  · have := v4 k k0 k1
    unfold sX sY sV at this ⊢
    rw [gm_drP_o (by omega) (by omega), gm_drP_o (by omega) (by omega), gm_drP_o (by omega) (by omega)]
    exact this
  · obtain ⟨a1, a2, a3, a4⟩ := gm_drP_q (D := D) p0 q0 (by omega)
    have hd : 0 ≤ gm_di p q ∧ gm_di p q < D 3 := by unfold gm_di; split <;> omega
    obtain ⟨w1, w2, w3, w4⟩ := v5 _ hd.1 hd.2
    rw [a1, a2, a3]
    refine ⟨w1, w2, w3, fun k k0 k1 => ?_⟩
    rw [(a4 k k0 (by omega)).1, (a4 k k0 (by omega)).2]
    exact w4 k k0 k1
theorem gm_drP_ve {D : Int → Int} (hD : VD D) (hE : VE D) {p : Int} (p0 : 0 ≤ p) (p1 : p < D 3) : VE (gm_drP D p) := by
  intro q k m q0 q1 k0 km m1
  rw [gm_drP_3] at q1
  have d3 := hD.2.2.2.1
  obtain ⟨a1, a2, a3, a4⟩ := gm_drP_q (D := D) p0 q0 (by omega)
  have hd : 0 ≤ gm_di p q ∧ gm_di p q < D 3 := by unfold gm_di; split <;> omega
  have hn := (hD.2.2.2.2.2 _ hd.1 hd.2).2.1
  rw [a2] at m1
  rw [(a4 k k0 (by omega)).1, (a4 k k0 (by omega)).2, (a4 m (by omega) (by omega)).1, (a4 m (by omega) (by omega)).2]
  exact hE _ k m hd.1 hd.2 k0 km m1
theorem gm_pt_r {D cm : Int → Int} {L : GL} (hD : VD D) (pl : Int) : -600000 ≤ gm_pt D cm L pl ∧ gm_pt D cm L pl ≤ 600000 := by
  have d3 := hD.2.2.2.1
  have h := gm_sm_le (f := gm_pp D cm L pl) (B := 99999) (m := (D 3).toNat) (fun k _ _ => by
    unfold gm_pp
    split
    · unfold gm_sc gm_li
      repeat' split
      all_goals omega
    · omega)
  have e : (((D 3).toNat : Nat) : Int) * 99999 ≤ 600000 := by omega
  exact ⟨by have := h.1; unfold gm_pt; omega, by have := h.2; unfold gm_pt; omega⟩
theorem gm_bst_r {f : Int → Int} {B : Int} (h : ∀ k, -B ≤ f k ∧ f k ≤ B) : ∀ n, -B ≤ (gm_bst f n).2 ∧ (gm_bst f n).2 ≤ B
  | 0 => h 0
  | n + 1 => by
    simp only [gm_bst]
    split
    · exact h _
    · exact gm_bst_r h n
section CCS2
variable {h h1 : AH} {o u b a j t s r : Nat} {D cm : Int → Int} {sc : Nat} {L : GL} {tx : Int → Int} {bl le : Int} {Hs : List GE}
theorem CCS.save (k : CCS h o u b a j t s r D cm sc L tx bl le Hs) (f : am_fr h h1 r (r + 194)) (hH : HL h1 r ((D, cm, sc) :: (Hs.map gm_e3).take 7)) : CCS h1 o u b a j t s r D cm sc L tx bl le ((D, cm, sc, L) :: Hs.take 7) := by
  refine k.fh f (by rw [List.map_cons, List.map_take]; exact hH) (fun e he => ?_)
  obtain ⟨-, -, -, -, -, c4, -, -, -, -, -, -, c11⟩ := k
  rcases List.mem_cons.mp he with rfl | he
  · exact c4
  · exact c11 e (List.mem_of_mem_take he)
theorem CCS.bd {D' cm' : Int → Int} (k : CCS h o u b a j t s r D cm sc L tx bl le Hs) (f : am_fr h h1 b (b + 24)) (hB : BD h1 b D' cm' sc) (hD : VD D') (hE : VE D') (hM : CMS D' cm') : CCS h1 o u b a j t s r D' cm' sc L tx bl le Hs := by
  obtain ⟨k1, k2, k3, k4, k5, ⟨o1, o2, o3, o4⟩, k6⟩ := id k
  exact k.fb f hB ⟨hD, hE, hM, o4.go (n := 0) (am_go.rf.fr f (by omega) (by omega)) (by omega)⟩
end CCS2

set_option maxHeartbeats 4000000 in
theorem c_X8_reason {w : am_w} {h : AH} {o u b a j t s r : Nat} {D cm : Int → Int} {sc : Nat} {L : GL} {tx : Int → Int} {bl le : Int} {Hs : List GE} (hX : CCS h o u b a j t s r D cm sc L tx bl le Hs) {p x y : Int} (r_p : am_r p) (r_x : am_r x) (r_y : am_r y)  : AE w m_X8_reason 10 [vr o, vi p, vi x, vi y] h (am_ay h (gA_p D p (gA_xy D x y gm_F)) (fun z h1 => gA_p D p (gA_xy D x y (gA_z (gm_rC D p x y))) (.inl z) ∧ CCS h1 o u b a j t s r D cm sc L tx bl le Hs ∧ am_go 0 h h1 o)) := by
  refine AE.of wf_X8_reason (Nat.le_of_ble_eq_true rfl) (am_ok_ay) ?_
  obtain ⟨ou, ob, oa, oj, ot, os, orr, oz⟩ := id hX.1
  obtain ⟨⟨-, -, -, -, -, -, -, oz_0⟩, c0_0, ⟨hXX_0, xr_0⟩, bl0_0, hB_0, ⟨hD_0, hE_0, hM_0, hS_0⟩, hA_0, hJ_0, hLJ_0, hR_0, ⟨fg_0, ll_0, hSC_0⟩, hH_0, hHs_0⟩ := id hX
  obtain ⟨⟨sx_0, sy_0, sv_0, ⟨b0_0, b1_0, b2_0, b3_0, b4_0, b5_0⟩, hst_0⟩, hall_0, hsh_0⟩ := id hB_0
  have d0_0 := hD_0.1
  have d1_0 := hD_0.2.1
  have d2_0 := hD_0.2.2.1
  have d3_0 := hD_0.2.2.2.1
  have hcr_0 : ∀ k8, 0 ≤ k8 → k8 < D 2 → -1 ≤ cm k8 ∧ cm k8 < 6 := fun k8 k0 k1 => (hM_0 k8 k0 k1).2
  have scz_0 := hS_0.2.2
  refine q_blk (lv2 := [(0, vr o), (1, vi p), (2, vi x), (3, vi y)]) (st2 := [vi p, vr o]) kX8_reason_0 rfl ?_
  refine AQ.callxVv (av := [vi p]) (st := []) (c_X8_requirePolygon hX r_p) lk_RX8_133 (by decide) rfl rfl hX.ob ⟨_, rfl, rfl⟩ (Nat.le_of_ble_eq_true rfl) eX8_reason_2 (by decide) (fun k9 h9 q9 => Or.inr ⟨k9, rfl, Or.inl ⟨q9.1.1, congrArg Sum.inr q9.1.2⟩, q9.2⟩) (fun h4 e3 => ?_)
  obtain ⟨rfl, hqP⟩ := e3
  refine q_blk (lv2 := [(0, vr o), (1, vi p), (2, vi x), (3, vi y)]) (st2 := [vi y, vi x, vr o]) kX8_reason_5 rfl ?_
  refine AQ.callxVv (av := [vi x, vi y]) (st := []) (c_X8_requirePoint hX r_x r_y) lk_RX8_161 (by decide) rfl rfl hX.ob ⟨_, rfl, rfl⟩ (Nat.le_of_ble_eq_true rfl) eX8_reason_8 (by decide) (fun k9 h9 q9 => Or.inr ⟨k9, rfl, Or.inr ⟨hqP, Or.inl ⟨q9.1.1, congrArg Sum.inr q9.1.2⟩⟩, q9.2⟩) (fun h7 e6 => ?_)
  obtain ⟨rfl, hqY⟩ := e6
  refine q_blk (lv2 := [(0, vr o), (1, vi p), (2, vi x), (3, vi y)]) (st2 := [vr o]) kX8_reason_11 rfl ?_
  refine q_gr eX8_reason_12 fl_RX8_28 (Or.inl ⟨_, rfl⟩) c0_0 rfl ?_
  refine q_blk (lv2 := [(0, vr o), (1, vi p), (2, vi x), (3, vi y)]) (st2 := [vi y, vi x, vi p, vr j]) kX8_reason_15 rfl ?_
  refine AQ.callVi (av := [vi p, vi x, vi y]) (st := []) (c_X3_reasonOfCorner hJ_0 hB_0 hD_0 hE_0 hLJ_0 (by omega) (by omega) (p := p) hqP.1 hqP.2 (h_x := ⟨by omega, by omega⟩) (h_y := ⟨by omega, by omega⟩)) lk_RX8_164 (by decide) rfl rfl hJ_0.ob ⟨_, rfl, rfl⟩ (Nat.le_of_ble_eq_true rfl) eX8_reason_18 (fun z8 h10 e9 => ?_)
  obtain ⟨Rh10, Lh10, Fh10⟩ := e9
  have Qh10 := gm_rC_r Rh10
  have Xh10 := CCS.fl hX Fh10 Lh10
  obtain ⟨⟨-, -, -, -, -, -, -, oz_10⟩, c0_10, ⟨hXX_10, xr_10⟩, bl0_10, hB_10, ⟨hD_10, hE_10, hM_10, hS_10⟩, hA_10, hJ_10, hLJ_10, hR_10, ⟨fg_10, ll_10, hSC_10⟩, hH_10, hHs_10⟩ := id Xh10
  obtain ⟨⟨sx_10, sy_10, sv_10, ⟨b0_10, b1_10, b2_10, b3_10, b4_10, b5_10⟩, hst_10⟩, hall_10, hsh_10⟩ := id hB_10
  have d0_10 := hD_10.1
  have d1_10 := hD_10.2.1
  have d2_10 := hD_10.2.2.1
  have d3_10 := hD_10.2.2.2.1
  have hcr_10 : ∀ k8, 0 ≤ k8 → k8 < D 2 → -1 ≤ cm k8 ∧ cm k8 < 6 := fun k8 k0 k1 => (hM_10 k8 k0 k1).2
  have scz_10 := hS_10.2.2
  exact q_ri rfl eX8_reason_21 (Or.inl ⟨z8, rfl, (Or.inr ⟨hqP, Or.inr ⟨hqY, ⟨_, Rh10, rfl⟩⟩⟩), Xh10, ((am_go.rf.fr Fh10 (by omega) (by omega)) : am_go 0 h h10 o)⟩)

set_option maxHeartbeats 4000000 in
theorem c_X8_points {w : am_w} {h : AH} {o u b a j t s r : Nat} {D cm : Int → Int} {sc : Nat} {L : GL} {tx : Int → Int} {bl le : Int} {Hs : List GE} (hX : CCS h o u b a j t s r D cm sc L tx bl le Hs) {pl : Int} (r_pl : am_r pl)  : AE w m_X8_points 10 [vr o, vi pl] h (am_ay h (gA_pl pl gm_F) (fun z h1 => gA_pl pl (gA_z (fun z => z = gm_pt D cm L pl)) (.inl z) ∧ CCS h1 o u b a j t s r D cm sc L tx bl le Hs ∧ am_go 0 h h1 o)) := by
  refine AE.of wf_X8_points (Nat.le_of_ble_eq_true rfl) (am_ok_ay) ?_
  obtain ⟨ou, ob, oa, oj, ot, os, orr, oz⟩ := id hX.1
  obtain ⟨⟨-, -, -, -, -, -, -, oz_0⟩, c0_0, ⟨hXX_0, xr_0⟩, bl0_0, hB_0, ⟨hD_0, hE_0, hM_0, hS_0⟩, hA_0, hJ_0, hLJ_0, hR_0, ⟨fg_0, ll_0, hSC_0⟩, hH_0, hHs_0⟩ := id hX
  obtain ⟨⟨sx_0, sy_0, sv_0, ⟨b0_0, b1_0, b2_0, b3_0, b4_0, b5_0⟩, hst_0⟩, hall_0, hsh_0⟩ := id hB_0
  have d0_0 := hD_0.1
  have d1_0 := hD_0.2.1
  have d2_0 := hD_0.2.2.1
  have d3_0 := hD_0.2.2.2.1
  have hcr_0 : ∀ k8, 0 ≤ k8 → k8 < D 2 → -1 ≤ cm k8 ∧ cm k8 < 6 := fun k8 k0 k1 => (hM_0 k8 k0 k1).2
  have scz_0 := hS_0.2.2
  refine q_blk (lv2 := [(0, vr o), (1, vi pl)]) (st2 := [vi pl]) kX8_points_0 rfl ?_
  refine q_Si (av := [vi pl]) (st := []) (c_X8_isPlayer r_pl) lk_RX8_199 (by decide) rfl rfl (Nat.le_of_ble_eq_true rfl) eX8_points_1 (fun z2 e3 => ?_)
  rcases e3 with ⟨rfl, e3⟩ | ⟨rfl, e3⟩
  · skip
    have hqL := e3
    refine AQ.of (AS.if_ne_t (tgt := 17) eX8_points_4 (by decide) ⟨by decide, by decide⟩ (by decide)) ?_
    refine q_blk (lv2 := [(0, vr o), (1, vi pl)]) (st2 := [vr o]) kX8_points_17 rfl ?_
    refine q_gr eX8_points_18 fl_RX8_44 (Or.inl ⟨_, rfl⟩) c0_0 rfl ?_
    refine q_blk (lv2 := [(0, vr o), (1, vi pl)]) (st2 := [vi pl, vr s]) kX8_points_21 rfl ?_
    refine AQ.callVi (av := [vi pl]) (st := []) (c_X5_sumOf hSC_0 hB_0 hD_0 hcr_0 hS_0.1 hS_0.2.1 (by omega) (by omega) (pl := pl) (by omega) (by omega)) lk_RX8_204 (by decide) rfl rfl hSC_0.ob ⟨_, rfl, rfl⟩ (Nat.le_of_ble_eq_true rfl) eX8_points_22 (fun z4 h6 e5 => ?_)
    obtain ⟨rfl, Sh6, Fh6⟩ := e5
    have Xh6 := CCS.fs hX Fh6 Sh6
    obtain ⟨⟨-, -, -, -, -, -, -, oz_6⟩, c0_6, ⟨hXX_6, xr_6⟩, bl0_6, hB_6, ⟨hD_6, hE_6, hM_6, hS_6⟩, hA_6, hJ_6, hLJ_6, hR_6, ⟨fg_6, ll_6, hSC_6⟩, hH_6, hHs_6⟩ := id Xh6
    obtain ⟨⟨sx_6, sy_6, sv_6, ⟨b0_6, b1_6, b2_6, b3_6, b4_6, b5_6⟩, hst_6⟩, hall_6, hsh_6⟩ := id hB_6
    have d0_6 := hD_6.1
    have d1_6 := hD_6.2.1
    have d2_6 := hD_6.2.2.1
    have d3_6 := hD_6.2.2.2.1
    have hcr_6 : ∀ k8, 0 ≤ k8 → k8 < D 2 → -1 ≤ cm k8 ∧ cm k8 < 6 := fun k8 k0 k1 => (hM_6 k8 k0 k1).2
    have scz_6 := hS_6.2.2
    exact q_ri rfl eX8_points_25 (Or.inl ⟨(gm_pt D cm L pl), rfl, (Or.inr ⟨hqL, ⟨_, rfl, rfl⟩⟩), Xh6, ((am_go.rf.fr Fh6 (by omega) (by omega)) : am_go 0 h h6 o)⟩)
  · skip
    refine AQ.of (AS.if_ne_f eX8_points_4 ⟨by decide, by decide⟩ (by decide) (by decide)) ?_
    exact AQ.throwS (i := 15) (k := 0) (by decide) rfl xk_0 xi_0 (by decide +kernel) xw_0 (by decide) (Nat.le_of_ble_eq_true rfl) eX8_points_7 (by decide +kernel) eX8_points_11 eX8_points_13 eX8_points_16 (by decide) (Or.inr ⟨0, rfl, Or.inl ⟨by omega, rfl⟩, rfl⟩)

set_option maxHeartbeats 4000000 in
theorem c_X8_leader {w : am_w} {h : AH} {o u b a j t s r : Nat} {D cm : Int → Int} {sc : Nat} {L : GL} {tx : Int → Int} {bl le : Int} {Hs : List GE} (hX : CCS h o u b a j t s r D cm sc L tx bl le Hs)  : AE w m_X8_leader 10 [vr o] h (am_int (fun z h1 => z = (gm_bst (gm_pt D cm L) 3).1 ∧ CCS h1 o u b a j t s r D cm sc L tx bl le Hs ∧ am_go 0 h h1 o)) := by
  refine AE.of wf_X8_leader (Nat.le_of_ble_eq_true rfl) (am_ok_i) ?_
  obtain ⟨ou, ob, oa, oj, ot, os, orr, oz⟩ := id hX.1
  obtain ⟨⟨-, -, -, -, -, -, -, oz_0⟩, c0_0, ⟨hXX_0, xr_0⟩, bl0_0, hB_0, ⟨hD_0, hE_0, hM_0, hS_0⟩, hA_0, hJ_0, hLJ_0, hR_0, ⟨fg_0, ll_0, hSC_0⟩, hH_0, hHs_0⟩ := id hX
  obtain ⟨⟨sx_0, sy_0, sv_0, ⟨b0_0, b1_0, b2_0, b3_0, b4_0, b5_0⟩, hst_0⟩, hall_0, hsh_0⟩ := id hB_0
  have d0_0 := hD_0.1
  have d1_0 := hD_0.2.1
  have d2_0 := hD_0.2.2.1
  have d3_0 := hD_0.2.2.2.1
  have hcr_0 : ∀ k8, 0 ≤ k8 → k8 < D 2 → -1 ≤ cm k8 ∧ cm k8 < 6 := fun k8 k0 k1 => (hM_0 k8 k0 k1).2
  have scz_0 := hS_0.2.2
  refine q_blk (lv2 := [(0, vr o), (1, vi 0)]) (st2 := [vr o]) kX8_leader_0 rfl ?_
  refine q_gr eX8_leader_3 fl_RX8_44 (Or.inl ⟨_, rfl⟩) c0_0 rfl ?_
  refine q_blk (lv2 := [(0, vr o), (1, vi 0)]) (st2 := [vi 0, vr s]) kX8_leader_6 rfl ?_
  refine AQ.callVi (av := [vi 0]) (st := []) (c_X5_sumOf hSC_0 hB_0 hD_0 hcr_0 hS_0.1 hS_0.2.1 (by omega) (by omega) (pl := 0) (by omega) (by omega)) lk_RX8_204 (by decide) rfl rfl hSC_0.ob ⟨_, rfl, rfl⟩ (Nat.le_of_ble_eq_true rfl) eX8_leader_7 (fun z2 h4 e3 => ?_)
  obtain ⟨rfl, Sh4, Fh4⟩ := e3
  have Xh4 := CCS.fs hX Fh4 Sh4
  obtain ⟨⟨-, -, -, -, -, -, -, oz_4⟩, c0_4, ⟨hXX_4, xr_4⟩, bl0_4, hB_4, ⟨hD_4, hE_4, hM_4, hS_4⟩, hA_4, hJ_4, hLJ_4, hR_4, ⟨fg_4, ll_4, hSC_4⟩, hH_4, hHs_4⟩ := id Xh4
  obtain ⟨⟨sx_4, sy_4, sv_4, ⟨b0_4, b1_4, b2_4, b3_4, b4_4, b5_4⟩, hst_4⟩, hall_4, hsh_4⟩ := id hB_4
  have d0_4 := hD_4.1
  have d1_4 := hD_4.2.1
  have d2_4 := hD_4.2.2.1
  have d3_4 := hD_4.2.2.2.1
  have hcr_4 : ∀ k8, 0 ≤ k8 → k8 < D 2 → -1 ≤ cm k8 ∧ cm k8 < 6 := fun k8 k0 k1 => (hM_4 k8 k0 k1).2
  have scz_4 := hS_4.2.2
  refine q_blk (lv2 := [(0, vr o), (1, vi 0), (2, vi (gm_pt D cm L 0)), (3, vi 1)]) (st2 := []) kX8_leader_10 rfl ?_
  refine am_lp4 (I := fun (bs : Int) (ms : Int) (pl : Int) (hh : AH) => (1 ≤ pl ∧ pl ≤ 4) ∧ (bs, ms) = gm_bst (gm_pt D cm L) (pl - 1).toNat ∧ CCS hh o u b a j t s r D cm sc L tx bl le Hs ∧ am_go 0 h hh o) (μ := fun (bs : Int) (ms : Int) (pl : Int) (hh : AH) => (4 - pl).toNat) (G := fun (bs : Int) (ms : Int) (pl : Int) (hh : AH) => AQ w m_X8_leader 10 13 [(0, vr o), (1, vi bs), (2, vi ms), (3, vi pl)] [] hh (am_int (fun z h1 => z = (gm_bst (gm_pt D cm L) 3).1 ∧ CCS h1 o u b a j t s r D cm sc L tx bl le Hs ∧ am_go 0 h h1 o))) ?_ 0 (gm_pt D cm L 0) 1 h4 (⟨⟨by omega, by omega⟩, rfl, Xh4, (am_go.rf.fr Fh4 (by omega) (by omega))⟩)
  intro bs ms pl hh hI7 ih6
  obtain ⟨⟨i0, i1⟩, hb9, hX9, hg9⟩ := hI7
  obtain ⟨⟨-, -, -, -, -, -, -, oz_7⟩, c0_7, ⟨hXX_7, xr_7⟩, bl0_7, hB_7, ⟨hD_7, hE_7, hM_7, hS_7⟩, hA_7, hJ_7, hLJ_7, hR_7, ⟨fg_7, ll_7, hSC_7⟩, hH_7, hHs_7⟩ := id hX9
  obtain ⟨⟨sx_7, sy_7, sv_7, ⟨b0_7, b1_7, b2_7, b3_7, b4_7, b5_7⟩, hst_7⟩, hall_7, hsh_7⟩ := id hB_7
  have d0_7 := hD_7.1
  have d1_7 := hD_7.2.1
  have d2_7 := hD_7.2.2.1
  have d3_7 := hD_7.2.2.2.1
  have hcr_7 : ∀ k8, 0 ≤ k8 → k8 < D 2 → -1 ≤ cm k8 ∧ cm k8 < 6 := fun k8 k0 k1 => (hM_7 k8 k0 k1).2
  have scz_7 := hS_7.2.2
  have hv9 := gm_pt_r (cm := cm) (L := L) hX9.2.2.2.2.2.1.1 pl
  have hm9 := gm_bst_r (f := gm_pt D cm L) (B := 600000) (fun k => gm_pt_r hX9.2.2.2.2.2.1.1 k) (pl - 1).toNat
  rw [← hb9] at hm9
  have hm8 : -600000 ≤ ms ∧ ms ≤ 600000 := hm9
  refine q_blk (lv2 := [(0, vr o), (1, vi bs), (2, vi ms), (3, vi pl)]) (st2 := [vi 3, vi pl]) kX8_leader_13 rfl ?_
  refine AQ.ic_gt (tgt := 45) eX8_leader_15 (by decide) (by first | assumption | exact ⟨by omega, by omega⟩) ⟨by decide, by decide⟩ (fun br9 => ?_) (fun br9 => ?_)
  · skip
    refine q_blk (lv2 := [(0, vr o), (1, vi bs), (2, vi ms), (3, vi pl)]) (st2 := [vi bs]) kX8_leader_45 rfl ?_
    exact q_ri rfl eX8_leader_46 ⟨bs, rfl, (by rw [show (3 : Nat) = (pl - 1).toNat by omega, ← hb9]), hX9, hg9⟩
  · skip
    refine q_blk (lv2 := [(0, vr o), (1, vi bs), (2, vi ms), (3, vi pl)]) (st2 := [vr o]) kX8_leader_18 rfl ?_
    refine q_gr eX8_leader_19 fl_RX8_44 (Or.inl ⟨_, rfl⟩) c0_7 rfl ?_
    refine q_blk (lv2 := [(0, vr o), (1, vi bs), (2, vi ms), (3, vi pl)]) (st2 := [vi pl, vr s]) kX8_leader_22 rfl ?_
    refine AQ.callVi (av := [vi pl]) (st := []) (c_X5_sumOf hSC_7 hB_7 hD_7 hcr_7 hS_7.1 hS_7.2.1 (by omega) (by omega) (pl := pl) (by omega) (by omega)) lk_RX8_204 (by decide) rfl rfl hSC_7.ob ⟨_, rfl, rfl⟩ (Nat.le_of_ble_eq_true rfl) eX8_leader_23 (fun z10 h12 e11 => ?_)
    obtain ⟨rfl, Sh12, Fh12⟩ := e11
    have Xh12 := CCS.fs hX9 Fh12 Sh12
    obtain ⟨⟨-, -, -, -, -, -, -, oz_12⟩, c0_12, ⟨hXX_12, xr_12⟩, bl0_12, hB_12, ⟨hD_12, hE_12, hM_12, hS_12⟩, hA_12, hJ_12, hLJ_12, hR_12, ⟨fg_12, ll_12, hSC_12⟩, hH_12, hHs_12⟩ := id Xh12
    obtain ⟨⟨sx_12, sy_12, sv_12, ⟨b0_12, b1_12, b2_12, b3_12, b4_12, b5_12⟩, hst_12⟩, hall_12, hsh_12⟩ := id hB_12
    have d0_12 := hD_12.1
    have d1_12 := hD_12.2.1
    have d2_12 := hD_12.2.2.1
    have d3_12 := hD_12.2.2.2.1
    have hcr_12 : ∀ k8, 0 ≤ k8 → k8 < D 2 → -1 ≤ cm k8 ∧ cm k8 < 6 := fun k8 k0 k1 => (hM_12 k8 k0 k1).2
    have scz_12 := hS_12.2.2
    refine q_blk (lv2 := [(0, vr o), (1, vi bs), (2, vi ms), (3, vi pl), (4, vi (gm_pt D cm L pl))]) (st2 := [vi ms, vi (gm_pt D cm L pl)]) kX8_leader_26 rfl ?_
    refine AQ.ic_le (tgt := 39) eX8_leader_31 (by decide) (by first | assumption | exact ⟨by omega, by omega⟩) (by first | assumption | exact ⟨by omega, by omega⟩) (fun br14 => ?_) (fun br14 => ?_)
    · skip
      refine q_blk (lv2 := [(0, vr o), (1, vi bs), (2, vi ms), (3, vi (pl + 1)), (4, vi (gm_pt D cm L pl))]) (st2 := []) kX8_leader_39 rfl ?_
      refine q_goto (tgt := 13) eX8_leader_42 (by decide) ?_
      refine q_sub (lv2 := [(0, vr o), (1, vi bs), (2, vi ms), (3, vi (pl + 1))]) [0, 1, 2, 3] rfl ?_
      exact ih6 bs ms (pl + 1) h12 (⟨⟨by omega, by omega⟩, (by rw [show (pl + 1 - 1).toNat = (pl - 1).toNat + 1 by omega]; simp only [gm_bst]; rw [← hb9, show (((pl - 1).toNat : Nat) : Int) + 1 = pl by omega]; first | rw [if_pos (by omega)] | rw [if_neg (by omega)]), Xh12, (hg9.fr Fh12 (by omega) (by omega))⟩) (by omega)
    · skip
      refine q_blk (lv2 := [(0, vr o), (1, vi pl), (2, vi (gm_pt D cm L pl)), (3, vi pl), (4, vi (gm_pt D cm L pl))]) (st2 := []) kX8_leader_34 rfl ?_
      refine q_blk (lv2 := [(0, vr o), (1, vi pl), (2, vi (gm_pt D cm L pl)), (3, vi (pl + 1)), (4, vi (gm_pt D cm L pl))]) (st2 := []) kX8_leader_39 rfl ?_
      refine q_goto (tgt := 13) eX8_leader_42 (by decide) ?_
      refine q_sub (lv2 := [(0, vr o), (1, vi pl), (2, vi (gm_pt D cm L pl)), (3, vi (pl + 1))]) [0, 1, 2, 3] rfl ?_
      exact ih6 pl (gm_pt D cm L pl) (pl + 1) h12 (⟨⟨by omega, by omega⟩, (by rw [show (pl + 1 - 1).toNat = (pl - 1).toNat + 1 by omega]; simp only [gm_bst]; rw [← hb9, show (((pl - 1).toNat : Nat) : Int) + 1 = pl by omega]; first | rw [if_pos (by omega)] | rw [if_neg (by omega)]), Xh12, (hg9.fr Fh12 (by omega) (by omega))⟩) (by omega)
