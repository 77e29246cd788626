/-! A text's polygons have sides that meet in corners alone. -/
theorem rS_v {kd st vl D D' : Int → Int} {he : Int} (hD : VD D) (hG : GV D) (h : rS kd st vl D he = .inr D') : GV D' := by
  unfold rS at h
  split at h
  · rename_i c
    obtain ⟨⟨x, y⟩, h1, h⟩ := rB_i h
    obtain ⟨-, h⟩ := gm_ite_i h
    obtain ⟨v, h2, h⟩ := rB_i h
    obtain ⟨u, h3, h⟩ := rB_i h
    cases h
    exact hG.addS hD c
  · cases h
theorem rK_v {kd st vl : Int → Int} {p : Int} : ∀ {f : Nat} {D D' : Int → Int} {he he' : Int}, VD D → VE D → GV D → 0 ≤ p → p < D 3 → rK kd st vl p f D he = .inr (D', he') → GV D'
  | 0, D, D', he, he', hD, hE, hG, p0, p1, h => by cases h; exact hG
  | f + 1, D, D', he, he', hD, hE, hG, p0, p1, h => by
    unfold rK at h
    split at h
    · rename_i c
      obtain ⟨⟨x, y⟩, h1, h⟩ := rB_i h
      obtain ⟨hr, h⟩ := gm_ite_j h
      obtain ⟨q1, q2, q3, q4, q5, q6⟩ := rP_r h1
      have r0 := gm_rC_0 hr
      have t3 : (gm_adC D p x y) 3 = D 3 := gm_setP_o (by omega)
      exact rK_v (gm_adC_vd hD p0 p1 r0.1 r0.2.1 q5 q6) (gm_adC_ve hD hE p0 p1 r0.2.1 r0.2.2) (hG.adC hD p0 p1 hr) p0 (by rw [t3]; exact p1) h
    · cases h; exact hG
theorem rG_v {kd st vl D D' : Int → Int} {he he' n : Int} (hD : VD D) (hE : VE D) (hG : GV D) (kn : kd n = 0) (he1 : he ≤ n) (hk : kd he ≠ 0) (h : rG kd st vl D he = .inr (D', he')) : GV D' := by
  unfold rG at h
  split at h
  · rename_i c
    obtain ⟨o, h1, h⟩ := rB_i h
    obtain ⟨⟨x, y⟩, h2, h⟩ := rB_i h
    obtain ⟨hoc, h⟩ := gm_ite_i h
    obtain ⟨⟨D2, e2⟩, h3, h⟩ := rB_i h
    obtain ⟨p1, p2, p3, p4, p5, p6⟩ := rP_r h2
    have h1 := rN_r h1
    have d3 := hD.2.2.2.1
    have a0 : he ≠ n := fun e => by rw [e] at hk; omega
    have a1 : he + 1 ≠ n := fun e => by rw [e] at h1; omega
    have a2 : he + 1 + 1 ≠ n := fun e => by rw [e] at p1; omega
    have a3 : he + 1 + 1 + 1 ≠ n := fun e => by rw [e] at p2; omega
    have t3 : (gm_stP D o x y) 3 = D 3 + 1 := am_uI_at _ _ _
    have v1 := gm_stP_vd hD c h1.2.2 p5 p6
    have v2 := gm_stP_ve hD hE c (o := o) (x := x) (y := y)
    obtain ⟨g1, g2, -, -, g5⟩ := rK_i kn v1 v2 d3.1 (by omega) (by omega) h3
    have g := rK_v v1 v2 (hG.stP hD) d3.1 (by omega) h3
    split at h
    · rename_i k59
      obtain ⟨hr, h⟩ := gm_ite_j h
      cases h
      exact g.clP g1 d3.1 (by omega) hr
    · cases h
  · cases h
theorem rW_b {kd st vl : Int → Int} {n : Int} (n0 : n ≤ 800) (kn : kd n = 0) (kr : ∀ i, 0 ≤ i → i < 801 → -5 ≤ kd i ∧ kd i ≤ 100) (vq : ∀ i, 0 ≤ i → i < 801 → 0 ≤ vl i ∧ vl i ≤ 10000) {hs he : Int} {L : GL} {he' : Int} (h0 : 0 ≤ he) (h1 : he < n) (h : rW kd st vl hs he = .inr (L, he')) : he < he' ∧ he' ≤ n := by
  unfold rW at h
  split at h
  · obtain ⟨⟨L1, e1⟩, q1, h⟩ := rB_i h
    obtain ⟨_, q2, h⟩ := rB_i h
    cases h
    obtain ⟨b, -⟩ := rU_w (st := st) n0 kn kr vq 4 [] (he + 1) L1 e1 (by omega) (by omega) q1
    have q2 := rT_i q2
    have a1 : e1 ≠ n := fun e => by rw [e, kn] at q2; cases q2
    omega
  · cases h
theorem rR_v {kd st vl : Int → Int} {n : Int} (n0 : n ≤ 800) (kn : kd n = 0) (kr : ∀ i, 0 ≤ i → i < 801 → -5 ≤ kd i ∧ kd i ≤ 100) (vq : ∀ i, 0 ≤ i → i < 801 → 0 ≤ vl i ∧ vl i ≤ 10000) : ∀ {f : Nat} {D D' : Int → Int} {L L' : Option GL} {he : Int}, VD D → VE D → GV D → 0 ≤ he → he ≤ n → rR kd st vl f D L he = .inr (D', L') → VD D' ∧ VE D' ∧ GV D'
  | 0, D, D', L, L', he, hD, hE, hG, _, _, h => by cases h; exact ⟨hD, hE, hG⟩
  | f + 1, D, D', L, L', he, hD, hE, hG, he0, he1, h => by
    unfold rR at h
    split at h
    · cases h; exact ⟨hD, hE, hG⟩
    · rename_i k0
      have a0 : he ≠ n := fun e => by rw [e] at k0; exact k0 kn
      split at h
      · obtain ⟨E, q1, h⟩ := rB_i h
        obtain ⟨v1, v2, v3⟩ := rS_i hD hE kn he1 k0 q1
        exact rR_v n0 kn kr vq v1 v2 (rS_v hD hG q1) (by omega) (by omega) h
      · split at h
        · obtain ⟨⟨E, e2⟩, q1, h⟩ := rB_i h
          obtain ⟨v1, v2, v3, v4⟩ := rG_i hD hE kn he1 k0 q1
          exact rR_v n0 kn kr vq v1 v2 (rG_v hD hE hG kn he1 k0 q1) (show 0 ≤ e2 by omega) v4 h
        · split at h
          · obtain ⟨⟨l, e2⟩, q1, h⟩ := rB_i h
            have b := rW_b n0 kn kr vq he0 (by omega) q1
            exact rR_v n0 kn kr vq hD hE hG (show 0 ≤ e2 by omega) b.2 h
          · cases h
theorem rD_v {kd st vl : Int → Int} {n : Int} {D' : Int → Int} {L' : Option GL} (n1 : 0 ≤ n) (n0 : n ≤ 800) (kn : kd n = 0) (kr : ∀ i, 0 ≤ i → i < 801 → -5 ≤ kd i ∧ kd i ≤ 100) (vq : ∀ i, 0 ≤ i → i < 801 → 0 ≤ vl i ∧ vl i ≤ 10000) (h : rD kd st vl = .inr (D', L')) : VD D' ∧ VE D' ∧ GV D' := by
  unfold rD at h
  obtain ⟨⟨x, y⟩, h1, h⟩ := rB_i h
  obtain ⟨a, b, c⟩ := rF_i n1 kn h1
  exact rR_v n0 kn kr vq (gm_emp_vd a b) gm_emp_ve GV.emp (by decide) c h
