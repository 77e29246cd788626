/-! The law's Field: what tells of it. -/
/-- a field of the law's holds these data -/
def FLD (h : AH) (B : Nat → Prop) (f sa pa : Nat) (gs gp : Int → Option Nat) (T : Option Nat) (D : Int → Int) : Prop :=
  (B f ∧ B sa ∧ B pa) ∧   h.1 f = some (8, 5, am_L [D 0, D 1, 0, 0, 0], am_G [none, none, some sa, some pa, T]) ∧ (∃ fz, h.1 sa = some (105, D 2, fz, gs)) ∧ (∃ fz, h.1 pa = some (106, D 3, fz, gp)) ∧
  (∀ k, 0 ≤ k → k < D 2 → ∃ q fs, gs k = some q ∧ B q ∧ h.1 q = some (100, 3, fs, am_N) ∧ fs 0 = sX D k ∧ fs 1 = sY D k ∧ fs 2 = sV D k) ∧
  (∀ p, 0 ≤ p → p < D 3 → ∃ q, gp p = some q ∧ LSH h B q (pN D p) (pC D p) (pO D p) (pX D p) (pY D p)) ∧
  ∀ p q, 0 ≤ p → p < D 3 → 0 ≤ q → q < D 3 → gp p = gp q → p = q
theorem FLD.ob {h : AH} {B : Nat → Prop} {f sa pa : Nat} {gs gp : Int → Option Nat} {T : Option Nat} {D : Int → Int} (hF : FLD h B f sa pa gs gp T D) : am_ob h f 8 := ⟨_, _, _, hF.2.1⟩
theorem gm_orx {P : Int → Prop} {b v i : Int} (h0 : 0 ≤ i) (hb : b = 1 ↔ ∃ k, 0 ≤ k ∧ k < i ∧ P k) (hv : v = 1 ↔ P i) : (am_orb b v = 0 ∨ am_orb b v = 1) ∧ (am_orb b v = 1 ↔ ∃ k, 0 ≤ k ∧ k < i + 1 ∧ P k) := by
  have := am_orb_i hb hv
  rw [gm_ex_s h0]
  exact this
theorem gm_ory {P : Int → Prop} {E : Prop} {b v i : Int} (h0 : 0 ≤ i) (hb : b = 1 ↔ (E ∨ ∃ k, 0 ≤ k ∧ k < i ∧ P k)) (hv : v = 1 ↔ P i) : (am_orb b v = 0 ∨ am_orb b v = 1) ∧ (am_orb b v = 1 ↔ (E ∨ ∃ k, 0 ≤ k ∧ k < i + 1 ∧ P k)) := by
  have := am_orb_i hb hv
  rw [gm_ex_s h0, ← or_assoc]
  exact this

set_option maxRecDepth 4000 in
set_option maxHeartbeats 1000000 in
theorem c_X9_isStone {w : am_w} {h : AH} {B : Nat → Prop} {f sa pa : Nat} {gs gp : Int → Option Nat} {T : Option Nat} {D : Int → Int} (hF : FLD h B f sa pa gs gp T D) (hD : VD D) {x y : Int} (hx : am_c x) (hy : am_c y)  : AE w m_X9_isStone 1 [vr f, vi x, vi y] h (am_intp h (fun z => am_b z (gm_stn D x y))) := by
  refine AE.of wf_X9_isStone (Nat.le_of_ble_eq_true rfl) (am_ok_zp (fun z q => am_bz q)) ?_
  obtain ⟨⟨bf, bs, bp⟩, C0, ⟨fz1, C1⟩, ⟨fz2, C2⟩, hst, hsh, hij⟩ := id hF
  have d0 := hD.1
  have d1 := hD.2.1
  have d2 := hD.2.2.1
  have d3 := hD.2.2.2.1
  have x0 := hx.1
  have x1 := hx.2
  have y0 := hy.1
  have y1 := hy.2
  refine q_blk (lv2 := [(0, vr f), (1, vi x), (2, vi y), (3, vi 0)]) (st2 := [vr f]) kX9_isStone_0 rfl ?_
  refine q_gr eX9_isStone_3 fl_RX9_18 (Or.inr ⟨_, rfl⟩) C0 rfl ?_
  refine q_blk (lv2 := [(0, vr f), (1, vi x), (2, vi y), (3, vi 0), (4, vr sa)]) (st2 := [vr sa]) kX9_isStone_6 rfl ?_
  refine q_al eX9_isStone_10 C1 (by decide) ?_
  refine q_blk (lv2 := [(0, vr f), (1, vi x), (2, vi y), (3, vi 0), (4, vr sa), (5, vi (D 2)), (6, vi 0)]) (st2 := []) kX9_isStone_11 rfl ?_
  refine am_lp2 (I := fun (b : Int) (i : Int) => (0 ≤ i ∧ i ≤ D 2) ∧ (b = 0 ∨ b = 1) ∧ (b = 1 ↔ ∃ k, 0 ≤ k ∧ k < i ∧ (sX D k = x ∧ sY D k = y))) (μ := fun (b : Int) (i : Int) => (D 2 - i).toNat) (G := fun (b : Int) (i : Int) => AQ w m_X9_isStone 1 16 [(0, vr f), (1, vi x), (2, vi y), (3, vi b), (4, vr sa), (5, vi (D 2)), (6, vi i)] [] h (am_intp h (fun z => am_b z (gm_stn D x y)))) ?_ 0 0 (⟨⟨by omega, by omega⟩, Or.inl rfl, ⟨fun q => by omega, fun ⟨k, k0, k1, _⟩ => by omega⟩⟩)
  intro b i hI2 ih1
  obtain ⟨⟨i0, i1⟩, b0, hb⟩ := hI2
  refine q_blk (lv2 := [(0, vr f), (1, vi x), (2, vi y), (3, vi b), (4, vr sa), (5, vi (D 2)), (6, vi i)]) (st2 := [vi (D 2), vi i]) kX9_isStone_16 rfl ?_
  refine AQ.ic_ge (tgt := 60) eX9_isStone_20 (by decide) (by first | assumption | exact ⟨by omega, by omega⟩) (by first | assumption | exact ⟨by omega, by omega⟩) (fun br3 => ?_) (fun br3 => ?_)
  · skip
    refine q_blk (lv2 := [(0, vr f), (1, vi x), (2, vi y), (3, vi b), (4, vr sa), (5, vi (D 2)), (6, vi i)]) (st2 := [vi b]) kX9_isStone_60 rfl ?_
    exact q_rz rfl eX9_isStone_61 (by omega) ⟨b, rfl, (by rw [show i = D 2 by omega] at hb; exact b0.elim (fun e => Or.inr ⟨e, fun q => by have := hb.mpr q; omega⟩) (fun e => Or.inl ⟨e, hb.mp e⟩)), rfl⟩
  · skip
    refine q_blk (lv2 := [(0, vr f), (1, vi x), (2, vi y), (3, vi b), (4, vr sa), (5, vi (D 2)), (6, vi i)]) (st2 := [vi i, vr sa]) kX9_isStone_23 rfl ?_
    obtain ⟨q4, f4, g4, w4, c4, x4, y4, v4⟩ := hst i (by omega) (by omega)
    have b4 := hD.2.2.2.2.1 i (by omega) (by omega)
    refine q_aa eX9_isStone_27 C1 (by decide) (by omega) (by omega) g4 ?_
    refine q_blk (lv2 := [(0, vr f), (1, vi x), (2, vi y), (3, vi b), (4, vr sa), (5, vi (D 2)), (6, vi i), (7, vr q4)]) (st2 := [vi 0, vr q4, vi b]) kX9_isStone_28 rfl ?_
    refine q_ia eX9_isStone_34 c4 (by decide) (by omega) (by omega) (z := (sX D i)) x4 ?_
    refine q_blk (lv2 := [(0, vr f), (1, vi x), (2, vi y), (3, vi b), (4, vr sa), (5, vi (D 2)), (6, vi i), (7, vr q4)]) (st2 := [vi x, vi (sX D i), vi b]) kX9_isStone_35 rfl ?_
    refine AQ.ic_ne (tgt := 51) eX9_isStone_36 (by decide) (by first | assumption | exact ⟨by omega, by omega⟩) (by first | assumption | exact ⟨by omega, by omega⟩) (fun br5 => ?_) (fun br5 => ?_)
    · skip
      refine q_blk (lv2 := [(0, vr f), (1, vi x), (2, vi y), (3, vi b), (4, vr sa), (5, vi (D 2)), (6, vi i), (7, vr q4)]) (st2 := [vi 0, vi b]) kX9_isStone_51 rfl ?_
      refine AQ.of (AS.iorB eX9_isStone_52 (by first | assumption | omega) (by first | assumption | omega)) ?_
      refine q_blk (lv2 := [(0, vr f), (1, vi x), (2, vi y), (3, vi (am_orb b 0)), (4, vr sa), (5, vi (D 2)), (6, vi (i + 1)), (7, vr q4)]) (st2 := []) kX9_isStone_53 rfl ?_
      refine q_goto (tgt := 16) eX9_isStone_57 (by decide) ?_
      refine q_sub (lv2 := [(0, vr f), (1, vi x), (2, vi y), (3, vi (am_orb b 0)), (4, vr sa), (5, vi (D 2)), (6, vi (i + 1))]) [0, 1, 2, 3, 4, 5, 6] rfl ?_
      exact ih1 (am_orb b 0) (i + 1) (⟨⟨by omega, by omega⟩, gm_orx (P := fun k => sX D k = x ∧ sY D k = y) i0 hb (by first | omega | (dsimp only; omega))⟩) (by omega)
    · skip
      refine q_blk (lv2 := [(0, vr f), (1, vi x), (2, vi y), (3, vi b), (4, vr sa), (5, vi (D 2)), (6, vi i), (7, vr q4)]) (st2 := [vi 1, vr q4, vi b]) kX9_isStone_39 rfl ?_
      refine q_ia eX9_isStone_42 c4 (by decide) (by omega) (by omega) (z := (sY D i)) y4 ?_
      refine q_blk (lv2 := [(0, vr f), (1, vi x), (2, vi y), (3, vi b), (4, vr sa), (5, vi (D 2)), (6, vi i), (7, vr q4)]) (st2 := [vi y, vi (sY D i), vi b]) kX9_isStone_43 rfl ?_
      refine AQ.ic_ne (tgt := 51) eX9_isStone_44 (by decide) (by first | assumption | exact ⟨by omega, by omega⟩) (by first | assumption | exact ⟨by omega, by omega⟩) (fun br6 => ?_) (fun br6 => ?_)
      · skip
        refine q_blk (lv2 := [(0, vr f), (1, vi x), (2, vi y), (3, vi b), (4, vr sa), (5, vi (D 2)), (6, vi i), (7, vr q4)]) (st2 := [vi 0, vi b]) kX9_isStone_51 rfl ?_
        refine AQ.of (AS.iorB eX9_isStone_52 (by first | assumption | omega) (by first | assumption | omega)) ?_
        refine q_blk (lv2 := [(0, vr f), (1, vi x), (2, vi y), (3, vi (am_orb b 0)), (4, vr sa), (5, vi (D 2)), (6, vi (i + 1)), (7, vr q4)]) (st2 := []) kX9_isStone_53 rfl ?_
        refine q_goto (tgt := 16) eX9_isStone_57 (by decide) ?_
        refine q_sub (lv2 := [(0, vr f), (1, vi x), (2, vi y), (3, vi (am_orb b 0)), (4, vr sa), (5, vi (D 2)), (6, vi (i + 1))]) [0, 1, 2, 3, 4, 5, 6] rfl ?_
        exact ih1 (am_orb b 0) (i + 1) (⟨⟨by omega, by omega⟩, gm_orx (P := fun k => sX D k = x ∧ sY D k = y) i0 hb (by first | omega | (dsimp only; omega))⟩) (by omega)
      · skip
        refine q_blk (lv2 := [(0, vr f), (1, vi x), (2, vi y), (3, vi b), (4, vr sa), (5, vi (D 2)), (6, vi i), (7, vr q4)]) (st2 := [vi 1, vi b]) kX9_isStone_47 rfl ?_
        refine q_goto (tgt := 52) eX9_isStone_48 (by decide) ?_
        refine AQ.of (AS.iorB eX9_isStone_52 (by first | assumption | omega) (by first | assumption | omega)) ?_
        refine q_blk (lv2 := [(0, vr f), (1, vi x), (2, vi y), (3, vi (am_orb b 1)), (4, vr sa), (5, vi (D 2)), (6, vi (i + 1)), (7, vr q4)]) (st2 := []) kX9_isStone_53 rfl ?_
        refine q_goto (tgt := 16) eX9_isStone_57 (by decide) ?_
        refine q_sub (lv2 := [(0, vr f), (1, vi x), (2, vi y), (3, vi (am_orb b 1)), (4, vr sa), (5, vi (D 2)), (6, vi (i + 1))]) [0, 1, 2, 3, 4, 5, 6] rfl ?_
        exact ih1 (am_orb b 1) (i + 1) (⟨⟨by omega, by omega⟩, gm_orx (P := fun k => sX D k = x ∧ sY D k = y) i0 hb (by first | omega | (dsimp only; omega))⟩) (by omega)

set_option maxRecDepth 4000 in
set_option maxHeartbeats 1000000 in
theorem c_X9_isCorner {w : am_w} {h : AH} {B : Nat → Prop} {f sa pa : Nat} {gs gp : Int → Option Nat} {T : Option Nat} {D : Int → Int} (hF : FLD h B f sa pa gs gp T D) (hD : VD D) {x y : Int} (hx : am_c x) (hy : am_c y)  : AE w m_X9_isCorner 1 [vr f, vi x, vi y] h (am_intp h (fun z => am_b z (gm_crn D x y))) := by
  refine AE.of wf_X9_isCorner (Nat.le_of_ble_eq_true rfl) (am_ok_zp (fun z q => am_bz q)) ?_
  obtain ⟨⟨bf, bs, bp⟩, C0, ⟨fz1, C1⟩, ⟨fz2, C2⟩, hst, hsh, hij⟩ := id hF
  have d0 := hD.1
  have d1 := hD.2.1
  have d2 := hD.2.2.1
  have d3 := hD.2.2.2.1
  have x0 := hx.1
  have x1 := hx.2
  have y0 := hy.1
  have y1 := hy.2
  refine q_blk (lv2 := [(0, vr f), (1, vi x), (2, vi y), (3, vi 0)]) (st2 := [vr f]) kX9_isCorner_0 rfl ?_
  refine q_gr eX9_isCorner_3 fl_RX9_24 (Or.inr ⟨_, rfl⟩) C0 rfl ?_
  refine q_blk (lv2 := [(0, vr f), (1, vi x), (2, vi y), (3, vi 0), (4, vr pa)]) (st2 := [vr pa]) kX9_isCorner_6 rfl ?_
  refine q_al eX9_isCorner_10 C2 (by decide) ?_
  refine q_blk (lv2 := [(0, vr f), (1, vi x), (2, vi y), (3, vi 0), (4, vr pa), (5, vi (D 3)), (6, vi 0)]) (st2 := []) kX9_isCorner_11 rfl ?_
  refine am_lp2 (I := fun (b : Int) (p : Int) => (0 ≤ p ∧ p ≤ D 3) ∧ (b = 0 ∨ b = 1) ∧ (b = 1 ↔ ∃ q, 0 ≤ q ∧ q < p ∧ gm_hc (pN D q) (pX D q) (pY D q) x y)) (μ := fun (b : Int) (p : Int) => (D 3 - p).toNat) (G := fun (b : Int) (p : Int) => AQ w m_X9_isCorner 1 16 [(0, vr f), (1, vi x), (2, vi y), (3, vi b), (4, vr pa), (5, vi (D 3)), (6, vi p)] [] h (am_intp h (fun z => am_b z (gm_crn D x y)))) ?_ 0 0 (⟨⟨by omega, by omega⟩, Or.inl rfl, ⟨fun q => by omega, fun ⟨k, k0, k1, _⟩ => by omega⟩⟩)
  intro b p hI2 ih1
  obtain ⟨⟨p0, p1⟩, b0, hb⟩ := hI2
  refine q_blk (lv2 := [(0, vr f), (1, vi x), (2, vi y), (3, vi b), (4, vr pa), (5, vi (D 3)), (6, vi p)]) (st2 := [vi (D 3), vi p]) kX9_isCorner_16 rfl ?_
  refine AQ.ic_ge (tgt := 90) eX9_isCorner_20 (by decide) (by first | assumption | exact ⟨by omega, by omega⟩) (by first | assumption | exact ⟨by omega, by omega⟩) (fun br3 => ?_) (fun br3 => ?_)
  · skip
    refine q_blk (lv2 := [(0, vr f), (1, vi x), (2, vi y), (3, vi b), (4, vr pa), (5, vi (D 3)), (6, vi p)]) (st2 := [vi b]) kX9_isCorner_90 rfl ?_
    exact q_rz rfl eX9_isCorner_91 (by omega) ⟨b, rfl, (by rw [show p = D 3 by omega] at hb; exact b0.elim (fun e => Or.inr ⟨e, fun q => by have := hb.mpr q; omega⟩) (fun e => Or.inl ⟨e, hb.mp e⟩)), rfl⟩
  · skip
    refine q_blk (lv2 := [(0, vr f), (1, vi x), (2, vi y), (3, vi b), (4, vr pa), (5, vi (D 3)), (6, vi p)]) (st2 := [vi p, vr pa]) kX9_isCorner_23 rfl ?_
    obtain ⟨q4, g4, l4⟩ := hsh p (by omega) (by omega)
    obtain ⟨ca4, cf4, ⟨w4, u4⟩, c4, d4, e4⟩ := id l4
    obtain ⟨⟨o4, o4'⟩, ⟨n4, n4'⟩, cc4, xy4⟩ := hD.2.2.2.2.2 p (by omega) (by omega)
    have vc4 := hD.vc (p := p) (by omega) (by omega)
    have ar4 := gm_ar_r vc4 (by omega) n4'
    refine q_aa eX9_isCorner_27 C2 (by decide) (by omega) (by omega) g4 ?_
    refine q_blk (lv2 := [(0, vr f), (1, vi x), (2, vi y), (3, vi b), (4, vr pa), (5, vi (D 3)), (6, vi p), (7, vr q4)]) (st2 := [vr q4]) kX9_isCorner_28 rfl ?_
    refine q_gr eX9_isCorner_32 fl_RX9_37 (Or.inr ⟨_, rfl⟩) c4 rfl ?_
    refine q_blk (lv2 := [(0, vr f), (1, vi x), (2, vi y), (3, vi b), (4, vr pa), (5, vi (D 3)), (6, vi p), (7, vr q4), (8, vr ca4)]) (st2 := [vr ca4]) kX9_isCorner_35 rfl ?_
    refine q_al eX9_isCorner_39 d4 (by decide) ?_
    refine q_blk (lv2 := [(0, vr f), (1, vi x), (2, vi y), (3, vi b), (4, vr pa), (5, vi (D 3)), (6, vi p), (7, vr q4), (8, vr ca4), (9, vi (pN D p)), (10, vi 0)]) (st2 := []) kX9_isCorner_40 rfl ?_
    refine am_lp2 (I := fun (b2 : Int) (k : Int) => (0 ≤ k ∧ k ≤ pN D p) ∧ (b2 = 0 ∨ b2 = 1) ∧ (b2 = 1 ↔ ((∃ q, 0 ≤ q ∧ q < p ∧ gm_hc (pN D q) (pX D q) (pY D q) x y) ∨ ∃ j, 0 ≤ j ∧ j < k ∧ (pX D p j = x ∧ pY D p j = y)))) (μ := fun (b2 : Int) (k : Int) => (pN D p - k).toNat) (G := fun (b2 : Int) (k : Int) => AQ w m_X9_isCorner 1 45 [(0, vr f), (1, vi x), (2, vi y), (3, vi b2), (4, vr pa), (5, vi (D 3)), (6, vi p), (7, vr q4), (8, vr ca4), (9, vi (pN D p)), (10, vi k)] [] h (am_intp h (fun z => am_b z (gm_crn D x y)))) ?_ b 0 (⟨⟨by omega, by omega⟩, b0, hb.trans ⟨Or.inl, fun q => q.elim id fun ⟨j, j0, j1, _⟩ => by omega⟩⟩)
    intro b2 k hI6 ih5
    obtain ⟨⟨k0, k1⟩, b1, hb2⟩ := hI6
    refine q_blk (lv2 := [(0, vr f), (1, vi x), (2, vi y), (3, vi b2), (4, vr pa), (5, vi (D 3)), (6, vi p), (7, vr q4), (8, vr ca4), (9, vi (pN D p)), (10, vi k)]) (st2 := [vi (pN D p), vi k]) kX9_isCorner_45 rfl ?_
    refine AQ.ic_ge (tgt := 84) eX9_isCorner_49 (by decide) (by first | assumption | exact ⟨by omega, by omega⟩) (by first | assumption | exact ⟨by omega, by omega⟩) (fun br7 => ?_) (fun br7 => ?_)
    · skip
      refine q_blk (lv2 := [(0, vr f), (1, vi x), (2, vi y), (3, vi b2), (4, vr pa), (5, vi (D 3)), (6, vi (p + 1)), (7, vr q4), (8, vr ca4), (9, vi (pN D p)), (10, vi k)]) (st2 := []) kX9_isCorner_84 rfl ?_
      refine q_goto (tgt := 16) eX9_isCorner_87 (by decide) ?_
      refine q_sub (lv2 := [(0, vr f), (1, vi x), (2, vi y), (3, vi b2), (4, vr pa), (5, vi (D 3)), (6, vi (p + 1))]) [0, 1, 2, 3, 4, 5, 6] rfl ?_
      exact ih1 b2 (p + 1) (⟨⟨by omega, by omega⟩, b1, by
          rw [gm_ex_s (P := fun q => gm_hc (pN D q) (pX D q) (pY D q) x y) p0, hb2, show k = pN D p by omega]
          exact Iff.rfl⟩) (by omega)
    · skip
      have xk := xy4 k (by omega) (by omega)
      refine q_blk (lv2 := [(0, vr f), (1, vi x), (2, vi y), (3, vi b2), (4, vr pa), (5, vi (D 3)), (6, vi p), (7, vr q4), (8, vr ca4), (9, vi (pN D p)), (10, vi k)]) (st2 := [vi k, vr ca4]) kX9_isCorner_52 rfl ?_
      refine q_ia eX9_isCorner_56 d4 (by decide) (by omega) (by omega) (z := (100 * pX D p k + pY D p k)) (e4 _ (by omega) (by omega)) ?_
      refine q_blk (lv2 := [(0, vr f), (1, vi x), (2, vi y), (3, vi b2), (4, vr pa), (5, vi (D 3)), (6, vi p), (7, vr q4), (8, vr ca4), (9, vi (pN D p)), (10, vi k), (11, vi (100 * pX D p k + pY D p k))]) (st2 := [vi ((100 * x) + y), vi (100 * pX D p k + pY D p k), vi b2]) kX9_isCorner_57 rfl ?_
      refine AQ.ic_ne (tgt := 75) eX9_isCorner_68 (by decide) (by first | assumption | exact ⟨by omega, by omega⟩) (by first | assumption | exact ⟨by omega, by omega⟩) (fun br8 => ?_) (fun br8 => ?_)
      · skip
        refine q_blk (lv2 := [(0, vr f), (1, vi x), (2, vi y), (3, vi b2), (4, vr pa), (5, vi (D 3)), (6, vi p), (7, vr q4), (8, vr ca4), (9, vi (pN D p)), (10, vi k), (11, vi (100 * pX D p k + pY D p k))]) (st2 := [vi 0, vi b2]) kX9_isCorner_75 rfl ?_
        refine AQ.of (AS.iorB eX9_isCorner_76 (by first | assumption | omega) (by first | assumption | omega)) ?_
        refine q_blk (lv2 := [(0, vr f), (1, vi x), (2, vi y), (3, vi (am_orb b2 0)), (4, vr pa), (5, vi (D 3)), (6, vi p), (7, vr q4), (8, vr ca4), (9, vi (pN D p)), (10, vi (k + 1)), (11, vi (100 * pX D p k + pY D p k))]) (st2 := []) kX9_isCorner_77 rfl ?_
        refine q_goto (tgt := 45) eX9_isCorner_81 (by decide) ?_
        refine q_sub (lv2 := [(0, vr f), (1, vi x), (2, vi y), (3, vi (am_orb b2 0)), (4, vr pa), (5, vi (D 3)), (6, vi p), (7, vr q4), (8, vr ca4), (9, vi (pN D p)), (10, vi (k + 1))]) [0, 1, 2, 3, 4, 5, 6, 7, 8, 9, 10] rfl ?_
        exact ih5 (am_orb b2 0) (k + 1) (⟨⟨by omega, by omega⟩, gm_ory (P := fun j => pX D p j = x ∧ pY D p j = y) k0 hb2 (by first | omega | (dsimp only; omega))⟩) (by omega)
      · skip
        refine q_blk (lv2 := [(0, vr f), (1, vi x), (2, vi y), (3, vi b2), (4, vr pa), (5, vi (D 3)), (6, vi p), (7, vr q4), (8, vr ca4), (9, vi (pN D p)), (10, vi k), (11, vi (100 * pX D p k + pY D p k))]) (st2 := [vi 1, vi b2]) kX9_isCorner_71 rfl ?_
        refine q_goto (tgt := 76) eX9_isCorner_72 (by decide) ?_
        refine AQ.of (AS.iorB eX9_isCorner_76 (by first | assumption | omega) (by first | assumption | omega)) ?_
        refine q_blk (lv2 := [(0, vr f), (1, vi x), (2, vi y), (3, vi (am_orb b2 1)), (4, vr pa), (5, vi (D 3)), (6, vi p), (7, vr q4), (8, vr ca4), (9, vi (pN D p)), (10, vi (k + 1)), (11, vi (100 * pX D p k + pY D p k))]) (st2 := []) kX9_isCorner_77 rfl ?_
        refine q_goto (tgt := 45) eX9_isCorner_81 (by decide) ?_
        refine q_sub (lv2 := [(0, vr f), (1, vi x), (2, vi y), (3, vi (am_orb b2 1)), (4, vr pa), (5, vi (D 3)), (6, vi p), (7, vr q4), (8, vr ca4), (9, vi (pN D p)), (10, vi (k + 1))]) [0, 1, 2, 3, 4, 5, 6, 7, 8, 9, 10] rfl ?_
        exact ih5 (am_orb b2 1) (k + 1) (⟨⟨by omega, by omega⟩, gm_ory (P := fun j => pX D p j = x ∧ pY D p j = y) k0 hb2 (by first | omega | (dsimp only; omega))⟩) (by omega)

set_option maxRecDepth 4000 in
set_option maxHeartbeats 1000000 in
theorem c_X9_isOnSide {w : am_w} {h : AH} {B : Nat → Prop} {f sa pa : Nat} {gs gp : Int → Option Nat} {T : Option Nat} {D : Int → Int} (hF : FLD h B f sa pa gs gp T D) (hD : VD D) (hE : VE D) {x y : Int} (hx : am_c x) (hy : am_c y)  : AE w m_X9_isOnSide 63 [vr f, vi x, vi y] h (am_intp h (fun z => am_b z (gm_oD D x y))) := by
  refine AE.of wf_X9_isOnSide (Nat.le_of_ble_eq_true rfl) (am_ok_zp (fun z q => am_bz q)) ?_
  obtain ⟨⟨bf, bs, bp⟩, C0, ⟨fz1, C1⟩, ⟨fz2, C2⟩, hst, hsh, hij⟩ := id hF
  have d0 := hD.1
  have d1 := hD.2.1
  have d2 := hD.2.2.1
  have d3 := hD.2.2.2.1
  have x0 := hx.1
  have x1 := hx.2
  have y0 := hy.1
  have y1 := hy.2
  refine q_blk (lv2 := [(0, vr f), (1, vi x), (2, vi y)]) (st2 := [vr f]) kX9_isOnSide_0 rfl ?_
  refine q_gr eX9_isOnSide_1 fl_RX9_24 (Or.inr ⟨_, rfl⟩) C0 rfl ?_
  refine q_blk (lv2 := [(0, vr f), (1, vi x), (2, vi y), (3, vr pa)]) (st2 := [vr pa]) kX9_isOnSide_4 rfl ?_
  refine q_al eX9_isOnSide_6 C2 (by decide) ?_
  refine q_blk (lv2 := [(0, vr f), (1, vi x), (2, vi y), (3, vr pa), (4, vi (D 3)), (5, vi 0)]) (st2 := []) kX9_isOnSide_7 rfl ?_
  refine am_lp1 (I := fun (p : Int) => (0 ≤ p ∧ p ≤ D 3) ∧ ∀ q, 0 ≤ q → q < p → ¬ gm_os (gm_ns (pN D q) (pC D q)) (pN D q) (pX D q) (pY D q) x y) (μ := fun (p : Int) => (D 3 - p).toNat) (G := fun (p : Int) => AQ w m_X9_isOnSide 63 12 [(0, vr f), (1, vi x), (2, vi y), (3, vr pa), (4, vi (D 3)), (5, vi p)] [] h (am_intp h (fun z => am_b z (gm_oD D x y)))) ?_ 0 (⟨⟨by omega, by omega⟩, fun q q0 q1 => by omega⟩)
  intro p hI2 ih1
  obtain ⟨⟨p0, p1⟩, hp⟩ := hI2
  refine q_blk (lv2 := [(0, vr f), (1, vi x), (2, vi y), (3, vr pa), (4, vi (D 3)), (5, vi p)]) (st2 := [vi (D 3), vi p]) kX9_isOnSide_12 rfl ?_
  refine AQ.ic_ge (tgt := 155) eX9_isOnSide_16 (by decide) (by first | assumption | exact ⟨by omega, by omega⟩) (by first | assumption | exact ⟨by omega, by omega⟩) (fun br3 => ?_) (fun br3 => ?_)
  · skip
    refine q_blk (lv2 := [(0, vr f), (1, vi x), (2, vi y), (3, vr pa), (4, vi (D 3)), (5, vi p)]) (st2 := [vi 0]) kX9_isOnSide_155 rfl ?_
    exact q_rz rfl eX9_isOnSide_156 (by decide) ⟨0, rfl, Or.inr ⟨rfl, fun ⟨q, q0, q1, w9⟩ => hp q q0 (by omega) w9⟩, rfl⟩
  · skip
    refine q_blk (lv2 := [(0, vr f), (1, vi x), (2, vi y), (3, vr pa), (4, vi (D 3)), (5, vi p)]) (st2 := [vi p, vr pa]) kX9_isOnSide_19 rfl ?_
    obtain ⟨q4, g4, l4⟩ := hsh p (by omega) (by omega)
    obtain ⟨ca4, cf4, ⟨w4, u4⟩, c4, d4, e4⟩ := id l4
    obtain ⟨⟨o4, o4'⟩, ⟨n4, n4'⟩, cc4, xy4⟩ := hD.2.2.2.2.2 p (by omega) (by omega)
    have vc4 := hD.vc (p := p) (by omega) (by omega)
    have ar4 := gm_ar_r vc4 (by omega) n4'
    refine q_aa eX9_isOnSide_22 C2 (by decide) (by omega) (by omega) g4 ?_
    refine q_blk (lv2 := [(0, vr f), (1, vi x), (2, vi y), (3, vr pa), (4, vi (D 3)), (5, vi p), (6, vr q4), (7, vi 0)]) (st2 := []) kX9_isOnSide_23 rfl ?_
    refine am_lp1 (I := fun (k : Int) => (0 ≤ k ∧ k ≤ gm_ns (pN D p) (pC D p)) ∧ ∀ j, 0 ≤ j → j < k → ¬ gm_sd (pN D p) (pX D p) (pY D p) x y j) (μ := fun (k : Int) => (gm_ns (pN D p) (pC D p) - k).toNat) (G := fun (k : Int) => AQ w m_X9_isOnSide 63 28 [(0, vr f), (1, vi x), (2, vi y), (3, vr pa), (4, vi (D 3)), (5, vi p), (6, vr q4), (7, vi k)] [] h (am_intp h (fun z => am_b z (gm_oD D x y)))) ?_ 0 (⟨⟨by omega, by unfold gm_ns; split <;> omega⟩, fun j j0 j1 => by omega⟩)
    intro k hI6 ih5
    obtain ⟨⟨k0, k1⟩, hk⟩ := hI6
    have nsr : gm_ns (pN D p) (pC D p) ≤ 12 ∧ 0 ≤ gm_ns (pN D p) (pC D p) := by unfold gm_ns; split <;> omega
    refine q_blk (lv2 := [(0, vr f), (1, vi x), (2, vi y), (3, vr pa), (4, vi (D 3)), (5, vi p), (6, vr q4), (7, vi k)]) (st2 := [vr q4, vi k]) kX9_isOnSide_28 rfl ?_
    refine q_Vi (av := []) (st := [vi k]) (c_X12_sides l4 vc4 n4 n4' (by omega)) lk_RX9_40 (by decide) rfl rfl l4.ob ⟨_, rfl, rfl⟩ (Nat.le_of_ble_eq_true rfl) eX9_isOnSide_32 (fun z7 e8 => ?_)
    subst e8
    refine AQ.ic_ge (tgt := 149) eX9_isOnSide_35 (by decide) (by first | assumption | exact ⟨by omega, by omega⟩) (by first | assumption | exact ⟨by omega, by omega⟩) (fun br9 => ?_) (fun br9 => ?_)
    · skip
      refine q_blk (lv2 := [(0, vr f), (1, vi x), (2, vi y), (3, vr pa), (4, vi (D 3)), (5, vi (p + 1)), (6, vr q4), (7, vi k)]) (st2 := []) kX9_isOnSide_149 rfl ?_
      refine q_goto (tgt := 12) eX9_isOnSide_152 (by decide) ?_
      refine q_sub (lv2 := [(0, vr f), (1, vi x), (2, vi y), (3, vr pa), (4, vi (D 3)), (5, vi (p + 1))]) [0, 1, 2, 3, 4, 5] rfl ?_
      exact ih1 (p + 1) (⟨⟨by omega, by omega⟩, fun q q0 q1 => by
          by_cases e9 : q = p
          · subst e9
            exact fun ⟨j, j0, j1, w9⟩ => hk j j0 (by omega) w9
          · exact hp q q0 (by omega)⟩) (by omega)
    · skip
      have br_ns : k < gm_ns (pN D p) (pC D p) := by omega
      have kn : k < pN D p := by have := br_ns; unfold gm_ns at this; split at this <;> omega
      have nr := gm_nx_r k0 kn
      have xk := xy4 k k0 kn
      have xn := xy4 _ nr.1 nr.2
      have hne := gm_side_ne hD hE p0 (show p < D 3 by omega) k0 br_ns
      have gr := gm_gc_r (ax := pX D p k) (ay := pY D p k) (bx := pX D p (gm_nx (pN D p) k)) (by' := pY D p (gm_nx (pN D p) k)) (by unfold am_c; omega) (by unfold am_c; omega) (by unfold am_c; omega) (by unfold am_c; omega)
      have gd := (gm_gd hne).1
      refine q_blk (lv2 := [(0, vr f), (1, vi x), (2, vi y), (3, vr pa), (4, vi (D 3)), (5, vi p), (6, vr q4), (7, vi k)]) (st2 := [vi (k + 1), vr q4]) kX9_isOnSide_38 rfl ?_
      refine q_Vi (av := [vi (k + 1)]) (st := []) (c_X12_x1 l4 vc4 n4 n4' (k := k) (by omega) (by omega)) lk_RX9_44 (by decide) rfl rfl l4.ob ⟨_, rfl, rfl⟩ (Nat.le_of_ble_eq_true rfl) eX9_isOnSide_44 (fun z10 e11 => ?_)
      subst e11
      refine q_blk (lv2 := [(0, vr f), (1, vi x), (2, vi y), (3, vr pa), (4, vi (D 3)), (5, vi p), (6, vr q4), (7, vi k)]) (st2 := [vi k, vr q4, vi ((pX D p) (gm_nx (pN D p) k))]) kX9_isOnSide_47 rfl ?_
      refine q_Vi (av := [vi k]) (st := [vi ((pX D p) (gm_nx (pN D p) k))]) (c_X12_x0 l4 vc4 n4 n4' (k := k) (by omega) (by omega)) lk_RX9_44 (by decide) rfl rfl l4.ob ⟨_, rfl, rfl⟩ (Nat.le_of_ble_eq_true rfl) eX9_isOnSide_51 (fun z12 e13 => ?_)
      subst e13
      refine q_blk (lv2 := [(0, vr f), (1, vi x), (2, vi y), (3, vr pa), (4, vi (D 3)), (5, vi p), (6, vr q4), (7, vi k), (8, vi (((pX D p) (gm_nx (pN D p) k)) - ((pX D p) k)))]) (st2 := [vi (k + 1), vr q4]) kX9_isOnSide_54 rfl ?_
      refine q_Vi (av := [vi (k + 1)]) (st := []) (c_X12_y1 l4 vc4 n4 n4' (k := k) (by omega) (by omega)) lk_RX9_48 (by decide) rfl rfl l4.ob ⟨_, rfl, rfl⟩ (Nat.le_of_ble_eq_true rfl) eX9_isOnSide_63 (fun z14 e15 => ?_)
      subst e15
      refine q_blk (lv2 := [(0, vr f), (1, vi x), (2, vi y), (3, vr pa), (4, vi (D 3)), (5, vi p), (6, vr q4), (7, vi k), (8, vi (((pX D p) (gm_nx (pN D p) k)) - ((pX D p) k)))]) (st2 := [vi k, vr q4, vi ((pY D p) (gm_nx (pN D p) k))]) kX9_isOnSide_66 rfl ?_
      refine q_Vi (av := [vi k]) (st := [vi ((pY D p) (gm_nx (pN D p) k))]) (c_X12_y0 l4 vc4 n4 n4' (k := k) (by omega) (by omega)) lk_RX9_48 (by decide) rfl rfl l4.ob ⟨_, rfl, rfl⟩ (Nat.le_of_ble_eq_true rfl) eX9_isOnSide_70 (fun z16 e17 => ?_)
      subst e17
      refine q_blk (lv2 := [(0, vr f), (1, vi x), (2, vi y), (3, vr pa), (4, vi (D 3)), (5, vi p), (6, vr q4), (7, vi k), (8, vi (((pX D p) (gm_nx (pN D p) k)) - ((pX D p) k))), (9, vi (((pY D p) (gm_nx (pN D p) k)) - ((pY D p) k)))]) (st2 := [vi (((pY D p) (gm_nx (pN D p) k)) - ((pY D p) k)), vi (((pX D p) (gm_nx (pN D p) k)) - ((pX D p) k))]) kX9_isOnSide_73 rfl ?_
      refine q_SNi (av := [vi (((pX D p) (gm_nx (pN D p) k)) - ((pX D p) k)), vi (((pY D p) (gm_nx (pN D p) k)) - ((pY D p) k))]) (st := []) (c_L_common (a := (((pX D p) (gm_nx (pN D p) k)) - ((pX D p) k))) (b := (((pY D p) (gm_nx (pN D p) k)) - ((pY D p) k))) ⟨by omega, by omega⟩ ⟨by omega, by omega⟩) lk_RX9_51 (by decide) rfl rfl (Nat.le_of_ble_eq_true rfl) eX9_isOnSide_80 (fun z18 e19 => ?_)
      obtain rfl : z18 = gm_gc (pX D p k) (pY D p k) (pX D p (gm_nx (pN D p) k)) (pY D p (gm_nx (pN D p) k)) := e19
      refine q_blk (lv2 := [(0, vr f), (1, vi x), (2, vi y), (3, vr pa), (4, vi (D 3)), (5, vi p), (6, vr q4), (7, vi k), (8, vi (((pX D p) (gm_nx (pN D p) k)) - ((pX D p) k))), (9, vi (((pY D p) (gm_nx (pN D p) k)) - ((pY D p) k))), (10, vi (gm_gc (pX D p k) (pY D p k) (pX D p (gm_nx (pN D p) k)) (pY D p (gm_nx (pN D p) k)))), (11, vi 0)]) (st2 := []) kX9_isOnSide_83 rfl ?_
      refine am_lp1 (I := fun (n : Int) => (0 ≤ n ∧ n ≤ gm_gc (pX D p k) (pY D p k) (pX D p (gm_nx (pN D p) k)) (pY D p (gm_nx (pN D p) k)) + 1) ∧ ∀ m, 0 ≤ m → m < n → ¬ (gm_sx (pX D p k) (pY D p k) (pX D p (gm_nx (pN D p) k)) (pY D p (gm_nx (pN D p) k)) m = x ∧ gm_sy (pX D p k) (pY D p k) (pX D p (gm_nx (pN D p) k)) (pY D p (gm_nx (pN D p) k)) m = y)) (μ := fun (n : Int) => (gm_gc (pX D p k) (pY D p k) (pX D p (gm_nx (pN D p) k)) (pY D p (gm_nx (pN D p) k)) + 1 - n).toNat) (G := fun (n : Int) => AQ w m_X9_isOnSide 63 88 [(0, vr f), (1, vi x), (2, vi y), (3, vr pa), (4, vi (D 3)), (5, vi p), (6, vr q4), (7, vi k), (8, vi (((pX D p) (gm_nx (pN D p) k)) - ((pX D p) k))), (9, vi (((pY D p) (gm_nx (pN D p) k)) - ((pY D p) k))), (10, vi (gm_gc (pX D p k) (pY D p k) (pX D p (gm_nx (pN D p) k)) (pY D p (gm_nx (pN D p) k)))), (11, vi n)] [] h (am_intp h (fun z => am_b z (gm_oD D x y)))) ?_ 0 (⟨⟨by omega, by omega⟩, fun m m0 m1 => by omega⟩)
      intro n hI21 ih20
      obtain ⟨⟨n0, n1⟩, hn⟩ := hI21
      refine q_blk (lv2 := [(0, vr f), (1, vi x), (2, vi y), (3, vr pa), (4, vi (D 3)), (5, vi p), (6, vr q4), (7, vi k), (8, vi (((pX D p) (gm_nx (pN D p) k)) - ((pX D p) k))), (9, vi (((pY D p) (gm_nx (pN D p) k)) - ((pY D p) k))), (10, vi (gm_gc (pX D p k) (pY D p k) (pX D p (gm_nx (pN D p) k)) (pY D p (gm_nx (pN D p) k)))), (11, vi n)]) (st2 := [vi (gm_gc (pX D p k) (pY D p k) (pX D p (gm_nx (pN D p) k)) (pY D p (gm_nx (pN D p) k))), vi n]) kX9_isOnSide_88 rfl ?_
      refine AQ.ic_gt (tgt := 143) eX9_isOnSide_92 (by decide) (by first | assumption | exact ⟨by omega, by omega⟩) (by first | assumption | exact ⟨by omega, by omega⟩) (fun br22 => ?_) (fun br22 => ?_)
      · skip
        refine q_blk (lv2 := [(0, vr f), (1, vi x), (2, vi y), (3, vr pa), (4, vi (D 3)), (5, vi p), (6, vr q4), (7, vi (k + 1)), (8, vi (((pX D p) (gm_nx (pN D p) k)) - ((pX D p) k))), (9, vi (((pY D p) (gm_nx (pN D p) k)) - ((pY D p) k))), (10, vi (gm_gc (pX D p k) (pY D p k) (pX D p (gm_nx (pN D p) k)) (pY D p (gm_nx (pN D p) k)))), (11, vi n)]) (st2 := []) kX9_isOnSide_143 rfl ?_
        refine q_goto (tgt := 28) eX9_isOnSide_146 (by decide) ?_
        refine q_sub (lv2 := [(0, vr f), (1, vi x), (2, vi y), (3, vr pa), (4, vi (D 3)), (5, vi p), (6, vr q4), (7, vi (k + 1))]) [0, 1, 2, 3, 4, 5, 6, 7] rfl ?_
        exact ih5 (k + 1) (⟨⟨by omega, by omega⟩, fun j j0 j1 => by
          by_cases e9 : j = k
          · subst e9
            intro w9
            obtain ⟨m, hm, e1, e2⟩ := (gm_lat_on hne).mp w9
            exact hn m hm.1 (by omega) ⟨e1, e2⟩
          · exact hk j j0 (by omega)⟩) (by omega)
      · skip
        have hw := gm_on_c (by unfold am_c; omega) (by unfold am_c; omega) (by unfold am_c; omega) (by unfold am_c; omega) ((gm_lat_on hne).mpr ⟨n, ⟨by omega, by omega⟩, rfl, rfl⟩)
        unfold am_c gm_sx gm_sy at hw
        refine q_blk (lv2 := [(0, vr f), (1, vi x), (2, vi y), (3, vr pa), (4, vi (D 3)), (5, vi p), (6, vr q4), (7, vi k), (8, vi (((pX D p) (gm_nx (pN D p) k)) - ((pX D p) k))), (9, vi (((pY D p) (gm_nx (pN D p) k)) - ((pY D p) k))), (10, vi (gm_gc (pX D p k) (pY D p k) (pX D p (gm_nx (pN D p) k)) (pY D p (gm_nx (pN D p) k)))), (11, vi n)]) (st2 := [vi k, vr q4]) kX9_isOnSide_95 rfl ?_
        refine q_Vi (av := [vi k]) (st := []) (c_X12_x0 l4 vc4 n4 n4' (k := k) (by omega) (by omega)) lk_RX9_44 (by decide) rfl rfl l4.ob ⟨_, rfl, rfl⟩ (Nat.le_of_ble_eq_true rfl) eX9_isOnSide_99 (fun z23 e24 => ?_)
        subst e24
        refine q_blk (lv2 := [(0, vr f), (1, vi x), (2, vi y), (3, vr pa), (4, vi (D 3)), (5, vi p), (6, vr q4), (7, vi k), (8, vi (((pX D p) (gm_nx (pN D p) k)) - ((pX D p) k))), (9, vi (((pY D p) (gm_nx (pN D p) k)) - ((pY D p) k))), (10, vi (gm_gc (pX D p k) (pY D p k) (pX D p (gm_nx (pN D p) k)) (pY D p (gm_nx (pN D p) k)))), (11, vi n)]) (st2 := [vi (gm_gc (pX D p k) (pY D p k) (pX D p (gm_nx (pN D p) k)) (pY D p (gm_nx (pN D p) k))), vi (((pX D p) (gm_nx (pN D p) k)) - ((pX D p) k)), vi ((pX D p) k)]) kX9_isOnSide_102 rfl ?_
        refine AQ.of (AS.idiv eX9_isOnSide_106 (by first | assumption | exact ⟨by omega, by omega⟩) (by first | assumption | exact ⟨by omega, by omega⟩) (by omega)) ?_
        refine q_blk (lv2 := [(0, vr f), (1, vi x), (2, vi y), (3, vr pa), (4, vi (D 3)), (5, vi p), (6, vr q4), (7, vi k), (8, vi (((pX D p) (gm_nx (pN D p) k)) - ((pX D p) k))), (9, vi (((pY D p) (gm_nx (pN D p) k)) - ((pY D p) k))), (10, vi (gm_gc (pX D p k) (pY D p k) (pX D p (gm_nx (pN D p) k)) (pY D p (gm_nx (pN D p) k)))), (11, vi n)]) (st2 := [vi x, vi (((pX D p) k) + ((Int.tdiv (((pX D p) (gm_nx (pN D p) k)) - ((pX D p) k)) (gm_gc (pX D p k) (pY D p k) (pX D p (gm_nx (pN D p) k)) (pY D p (gm_nx (pN D p) k)))) * n))]) kX9_isOnSide_107 rfl ?_
        refine AQ.ic_ne (tgt := 137) eX9_isOnSide_112 (by decide) (by first | assumption | exact ⟨by omega, by omega⟩) (by first | assumption | exact ⟨by omega, by omega⟩) (fun br25 => ?_) (fun br25 => ?_)
        · skip
          refine q_blk (lv2 := [(0, vr f), (1, vi x), (2, vi y), (3, vr pa), (4, vi (D 3)), (5, vi p), (6, vr q4), (7, vi k), (8, vi (((pX D p) (gm_nx (pN D p) k)) - ((pX D p) k))), (9, vi (((pY D p) (gm_nx (pN D p) k)) - ((pY D p) k))), (10, vi (gm_gc (pX D p k) (pY D p k) (pX D p (gm_nx (pN D p) k)) (pY D p (gm_nx (pN D p) k)))), (11, vi (n + 1))]) (st2 := []) kX9_isOnSide_137 rfl ?_
          refine q_goto (tgt := 88) eX9_isOnSide_140 (by decide) ?_
          exact ih20 (n + 1) (⟨⟨by omega, by omega⟩, fun m m0 m1 => by
          by_cases e9 : m = n
          · subst e9
            intro w9
            unfold gm_sx gm_sy at w9
            omega
          · exact hn m m0 (by omega)⟩) (by omega)
        · skip
          refine q_blk (lv2 := [(0, vr f), (1, vi x), (2, vi y), (3, vr pa), (4, vi (D 3)), (5, vi p), (6, vr q4), (7, vi k), (8, vi (((pX D p) (gm_nx (pN D p) k)) - ((pX D p) k))), (9, vi (((pY D p) (gm_nx (pN D p) k)) - ((pY D p) k))), (10, vi (gm_gc (pX D p k) (pY D p k) (pX D p (gm_nx (pN D p) k)) (pY D p (gm_nx (pN D p) k)))), (11, vi n)]) (st2 := [vi k, vr q4]) kX9_isOnSide_115 rfl ?_
          refine q_Vi (av := [vi k]) (st := []) (c_X12_y0 l4 vc4 n4 n4' (k := k) (by omega) (by omega)) lk_RX9_48 (by decide) rfl rfl l4.ob ⟨_, rfl, rfl⟩ (Nat.le_of_ble_eq_true rfl) eX9_isOnSide_119 (fun z26 e27 => ?_)
          subst e27
          refine q_blk (lv2 := [(0, vr f), (1, vi x), (2, vi y), (3, vr pa), (4, vi (D 3)), (5, vi p), (6, vr q4), (7, vi k), (8, vi (((pX D p) (gm_nx (pN D p) k)) - ((pX D p) k))), (9, vi (((pY D p) (gm_nx (pN D p) k)) - ((pY D p) k))), (10, vi (gm_gc (pX D p k) (pY D p k) (pX D p (gm_nx (pN D p) k)) (pY D p (gm_nx (pN D p) k)))), (11, vi n)]) (st2 := [vi (gm_gc (pX D p k) (pY D p k) (pX D p (gm_nx (pN D p) k)) (pY D p (gm_nx (pN D p) k))), vi (((pY D p) (gm_nx (pN D p) k)) - ((pY D p) k)), vi ((pY D p) k)]) kX9_isOnSide_122 rfl ?_
          refine AQ.of (AS.idiv eX9_isOnSide_126 (by first | assumption | exact ⟨by omega, by omega⟩) (by first | assumption | exact ⟨by omega, by omega⟩) (by omega)) ?_
          refine q_blk (lv2 := [(0, vr f), (1, vi x), (2, vi y), (3, vr pa), (4, vi (D 3)), (5, vi p), (6, vr q4), (7, vi k), (8, vi (((pX D p) (gm_nx (pN D p) k)) - ((pX D p) k))), (9, vi (((pY D p) (gm_nx (pN D p) k)) - ((pY D p) k))), (10, vi (gm_gc (pX D p k) (pY D p k) (pX D p (gm_nx (pN D p) k)) (pY D p (gm_nx (pN D p) k)))), (11, vi n)]) (st2 := [vi y, vi (((pY D p) k) + ((Int.tdiv (((pY D p) (gm_nx (pN D p) k)) - ((pY D p) k)) (gm_gc (pX D p k) (pY D p k) (pX D p (gm_nx (pN D p) k)) (pY D p (gm_nx (pN D p) k)))) * n))]) kX9_isOnSide_127 rfl ?_
          refine AQ.ic_ne (tgt := 137) eX9_isOnSide_132 (by decide) (by first | assumption | exact ⟨by omega, by omega⟩) (by first | assumption | exact ⟨by omega, by omega⟩) (fun br28 => ?_) (fun br28 => ?_)
          · skip
            refine q_blk (lv2 := [(0, vr f), (1, vi x), (2, vi y), (3, vr pa), (4, vi (D 3)), (5, vi p), (6, vr q4), (7, vi k), (8, vi (((pX D p) (gm_nx (pN D p) k)) - ((pX D p) k))), (9, vi (((pY D p) (gm_nx (pN D p) k)) - ((pY D p) k))), (10, vi (gm_gc (pX D p k) (pY D p k) (pX D p (gm_nx (pN D p) k)) (pY D p (gm_nx (pN D p) k)))), (11, vi (n + 1))]) (st2 := []) kX9_isOnSide_137 rfl ?_
            refine q_goto (tgt := 88) eX9_isOnSide_140 (by decide) ?_
            exact ih20 (n + 1) (⟨⟨by omega, by omega⟩, fun m m0 m1 => by
          by_cases e9 : m = n
          · subst e9
            intro w9
            unfold gm_sx gm_sy at w9
            omega
          · exact hn m m0 (by omega)⟩) (by omega)
          · skip
            refine q_blk (lv2 := [(0, vr f), (1, vi x), (2, vi y), (3, vr pa), (4, vi (D 3)), (5, vi p), (6, vr q4), (7, vi k), (8, vi (((pX D p) (gm_nx (pN D p) k)) - ((pX D p) k))), (9, vi (((pY D p) (gm_nx (pN D p) k)) - ((pY D p) k))), (10, vi (gm_gc (pX D p k) (pY D p k) (pX D p (gm_nx (pN D p) k)) (pY D p (gm_nx (pN D p) k)))), (11, vi n)]) (st2 := [vi 1]) kX9_isOnSide_135 rfl ?_
            exact q_rz rfl eX9_isOnSide_136 (by decide) ⟨1, rfl, Or.inl ⟨rfl, p, p0, by omega, k, k0, by omega, (gm_lat_on hne).mpr ⟨n, ⟨by omega, by omega⟩, by unfold gm_sx; omega, by unfold gm_sy; omega⟩⟩, rfl⟩

set_option maxRecDepth 4000 in
set_option maxHeartbeats 4000000 in
theorem c_X9_meet {w : am_w} {h : AH} {ax ay bx by' cx cy dx dy : Int} (h1 : am_c ax) (h2 : am_c ay) (h3 : am_c bx) (h4 : am_c by') (h5 : am_c cx) (h6 : am_c cy) (h7 : am_c dx) (h8 : am_c dy) (hb : bx ≠ ax ∨ by' ≠ ay) (hd : dx ≠ cx ∨ dy ≠ cy)  : AE w m_X9_meet 2 [vi ax, vi ay, vi bx, vi by', vi cx, vi cy, vi dx, vi dy] h (am_intp h (fun z => am_b z (gm_mt ax ay bx by' cx cy dx dy))) := by
  refine AE.of wf_X9_meet (Nat.le_of_ble_eq_true rfl) (am_ok_zp (fun z q => am_bz q)) ?_
  have hP := gm_mtP (cx := cx) (cy := cy) hb hd
  have hN := gm_mtN (cx := cx) (cy := cy) hb hd
  have hZ := gm_mtZ (cx := cx) (cy := cy) hb hd
  have hC := gm_mtC (cx := cx) (cy := cy) hb hd
  unfold gm_le at hP hN
  unfold gm_lb gm_l1 gm_l2 at hP hN
  unfold gm_lb gm_l2 at hZ hC
  unfold gm_pj at hC
  have f1 := am_cc h3 h1 h8 h6
  have f2 := am_cc h4 h2 h7 h5
  have f3 := am_cc h5 h1 h8 h6
  have f4 := am_cc h6 h2 h7 h5
  have f5 := am_cc h5 h1 h4 h2
  have f6 := am_cc h6 h2 h3 h1
  have f7 := am_cc h3 h1 h3 h1
  have f8 := am_cc h4 h2 h4 h2
  have f9 := am_cc h5 h1 h3 h1
  have g1 := am_cc h6 h2 h4 h2
  have g2 := am_cc h7 h1 h3 h1
  have g3 := am_cc h8 h2 h4 h2
  refine q_blk (lv2 := [(0, vi ax), (1, vi ay), (2, vi bx), (3, vi by'), (4, vi cx), (5, vi cy), (6, vi dx), (7, vi dy), (8, vi (((bx - ax) * (dy - cy)) - ((by' - ay) * (dx - cx)))), (9, vi (((cx - ax) * (dy - cy)) - ((cy - ay) * (dx - cx)))), (10, vi (((cx - ax) * (by' - ay)) - ((cy - ay) * (bx - ax))))]) (st2 := [vi (((bx - ax) * (dy - cy)) - ((by' - ay) * (dx - cx)))]) kX9_meet_0 rfl ?_
  refine AQ.if_ge (tgt := 83) eX9_meet_65 (by decide) (by first | assumption | exact ⟨by omega, by omega⟩) (fun br1 => ?_) (fun br1 => ?_)
  · skip
    refine q_blk (lv2 := [(0, vi ax), (1, vi ay), (2, vi bx), (3, vi by'), (4, vi cx), (5, vi cy), (6, vi dx), (7, vi dy), (8, vi (((bx - ax) * (dy - cy)) - ((by' - ay) * (dx - cx)))), (9, vi (((cx - ax) * (dy - cy)) - ((cy - ay) * (dx - cx)))), (10, vi (((cx - ax) * (by' - ay)) - ((cy - ay) * (bx - ax))))]) (st2 := [vi (((bx - ax) * (dy - cy)) - ((by' - ay) * (dx - cx)))]) kX9_meet_83 rfl ?_
    refine AQ.if_le (tgt := 144) eX9_meet_85 (by decide) (by first | assumption | exact ⟨by omega, by omega⟩) (fun br2 => ?_) (fun br2 => ?_)
    · skip
      refine q_blk (lv2 := [(0, vi ax), (1, vi ay), (2, vi bx), (3, vi by'), (4, vi cx), (5, vi cy), (6, vi dx), (7, vi dy), (8, vi (((bx - ax) * (dy - cy)) - ((by' - ay) * (dx - cx)))), (9, vi (((cx - ax) * (dy - cy)) - ((cy - ay) * (dx - cx)))), (10, vi (((cx - ax) * (by' - ay)) - ((cy - ay) * (bx - ax))))]) (st2 := [vi (((cx - ax) * (by' - ay)) - ((cy - ay) * (bx - ax)))]) kX9_meet_144 rfl ?_
      refine AQ.if_eq (tgt := 151) eX9_meet_146 (by decide) (by first | assumption | exact ⟨by omega, by omega⟩) (fun br3 => ?_) (fun br3 => ?_)
      · skip
        refine q_blk (lv2 := [(0, vi ax), (1, vi ay), (2, vi bx), (3, vi by'), (4, vi cx), (5, vi cy), (6, vi dx), (7, vi dy), (8, vi (((bx - ax) * (dy - cy)) - ((by' - ay) * (dx - cx)))), (9, vi (((cx - ax) * (dy - cy)) - ((cy - ay) * (dx - cx)))), (10, vi (((cx - ax) * (by' - ay)) - ((cy - ay) * (bx - ax)))), (11, vi (((bx - ax) * (bx - ax)) + ((by' - ay) * (by' - ay)))), (12, vi (((cx - ax) * (bx - ax)) + ((cy - ay) * (by' - ay)))), (13, vi (((dx - ax) * (bx - ax)) + ((dy - ay) * (by' - ay))))]) (st2 := [vi (((dx - ax) * (bx - ax)) + ((dy - ay) * (by' - ay))), vi (((cx - ax) * (bx - ax)) + ((cy - ay) * (by' - ay)))]) kX9_meet_151 rfl ?_
        refine AQ.of (AS.mmax eX9_meet_210 (by first | assumption | exact ⟨by omega, by omega⟩) (by first | assumption | exact ⟨by omega, by omega⟩) (am_gw 566 (by decide +kernel) (by decide +kernel)) (am_gw 567 (by decide +kernel) (by decide +kernel)) (am_gw 53 (by decide +kernel) (by decide +kernel)) (am_gw 568 (by decide +kernel) (by decide +kernel)) (by decide) (Nat.le_of_ble_eq_true rfl)) ?_
        obtain ⟨z4, e5⟩ : ∃ q : Int, q = (if (((cx - ax) * (bx - ax)) + ((cy - ay) * (by' - ay))) < (((dx - ax) * (bx - ax)) + ((dy - ay) * (by' - ay))) then (((dx - ax) * (bx - ax)) + ((dy - ay) * (by' - ay))) else (((cx - ax) * (bx - ax)) + ((cy - ay) * (by' - ay)))) := ⟨_, rfl⟩
        rw [← e5]
        refine q_blk (lv2 := [(0, vi ax), (1, vi ay), (2, vi bx), (3, vi by'), (4, vi cx), (5, vi cy), (6, vi dx), (7, vi dy), (8, vi (((bx - ax) * (dy - cy)) - ((by' - ay) * (dx - cx)))), (9, vi (((cx - ax) * (dy - cy)) - ((cy - ay) * (dx - cx)))), (10, vi (((cx - ax) * (by' - ay)) - ((cy - ay) * (bx - ax)))), (11, vi (((bx - ax) * (bx - ax)) + ((by' - ay) * (by' - ay)))), (12, vi (((cx - ax) * (bx - ax)) + ((cy - ay) * (by' - ay)))), (13, vi (((dx - ax) * (bx - ax)) + ((dy - ay) * (by' - ay))))]) (st2 := [vi (((bx - ax) * (bx - ax)) + ((by' - ay) * (by' - ay))), vi z4]) kX9_meet_213 rfl ?_
        refine AQ.of (AS.mmin eX9_meet_215 (by first | assumption | exact ⟨by omega, by omega⟩) (by first | assumption | exact ⟨by omega, by omega⟩) (am_gw 569 (by decide +kernel) (by decide +kernel)) (am_gw 570 (by decide +kernel) (by decide +kernel)) (am_gw 53 (by decide +kernel) (by decide +kernel)) (am_gw 571 (by decide +kernel) (by decide +kernel)) (by decide) (Nat.le_of_ble_eq_true rfl)) ?_
        obtain ⟨z6, e7⟩ : ∃ q : Int, q = (if (((bx - ax) * (bx - ax)) + ((by' - ay) * (by' - ay))) < z4 then (((bx - ax) * (bx - ax)) + ((by' - ay) * (by' - ay))) else z4) := ⟨_, rfl⟩
        rw [← e7]
        refine q_blk (lv2 := [(0, vi ax), (1, vi ay), (2, vi bx), (3, vi by'), (4, vi cx), (5, vi cy), (6, vi dx), (7, vi dy), (8, vi (((bx - ax) * (dy - cy)) - ((by' - ay) * (dx - cx)))), (9, vi (((cx - ax) * (dy - cy)) - ((cy - ay) * (dx - cx)))), (10, vi (((cx - ax) * (by' - ay)) - ((cy - ay) * (bx - ax)))), (11, vi (((bx - ax) * (bx - ax)) + ((by' - ay) * (by' - ay)))), (12, vi (((cx - ax) * (bx - ax)) + ((cy - ay) * (by' - ay)))), (13, vi (((dx - ax) * (bx - ax)) + ((dy - ay) * (by' - ay))))]) (st2 := [vi (((dx - ax) * (bx - ax)) + ((dy - ay) * (by' - ay))), vi (((cx - ax) * (bx - ax)) + ((cy - ay) * (by' - ay))), vi z6]) kX9_meet_218 rfl ?_
        refine AQ.of (AS.mmin eX9_meet_222 (by first | assumption | exact ⟨by omega, by omega⟩) (by first | assumption | exact ⟨by omega, by omega⟩) (am_gw 569 (by decide +kernel) (by decide +kernel)) (am_gw 570 (by decide +kernel) (by decide +kernel)) (am_gw 53 (by decide +kernel) (by decide +kernel)) (am_gw 571 (by decide +kernel) (by decide +kernel)) (by decide) (Nat.le_of_ble_eq_true rfl)) ?_
        obtain ⟨z8, e9⟩ : ∃ q : Int, q = (if (((dx - ax) * (bx - ax)) + ((dy - ay) * (by' - ay))) < (((cx - ax) * (bx - ax)) + ((cy - ay) * (by' - ay))) then (((dx - ax) * (bx - ax)) + ((dy - ay) * (by' - ay))) else (((cx - ax) * (bx - ax)) + ((cy - ay) * (by' - ay)))) := ⟨_, rfl⟩
        rw [← e9]
        refine q_blk (lv2 := [(0, vi ax), (1, vi ay), (2, vi bx), (3, vi by'), (4, vi cx), (5, vi cy), (6, vi dx), (7, vi dy), (8, vi (((bx - ax) * (dy - cy)) - ((by' - ay) * (dx - cx)))), (9, vi (((cx - ax) * (dy - cy)) - ((cy - ay) * (dx - cx)))), (10, vi (((cx - ax) * (by' - ay)) - ((cy - ay) * (bx - ax)))), (11, vi (((bx - ax) * (bx - ax)) + ((by' - ay) * (by' - ay)))), (12, vi (((cx - ax) * (bx - ax)) + ((cy - ay) * (by' - ay)))), (13, vi (((dx - ax) * (bx - ax)) + ((dy - ay) * (by' - ay))))]) (st2 := [vi 0, vi z8, vi z6]) kX9_meet_225 rfl ?_
        refine AQ.of (AS.mmax eX9_meet_226 (by first | assumption | exact ⟨by omega, by omega⟩) ⟨by decide, by decide⟩ (am_gw 566 (by decide +kernel) (by decide +kernel)) (am_gw 567 (by decide +kernel) (by decide +kernel)) (am_gw 53 (by decide +kernel) (by decide +kernel)) (am_gw 568 (by decide +kernel) (by decide +kernel)) (by decide) (Nat.le_of_ble_eq_true rfl)) ?_
        obtain ⟨z10, e11⟩ : ∃ q : Int, q = (if z8 < 0 then 0 else z8) := ⟨_, rfl⟩
        rw [← e11]
        have k1 : z10 < z6 ↔ gm_hi (gm_lo ((cx - ax) * (bx - ax) + (cy - ay) * (by' - ay)) ((dx - ax) * (bx - ax) + (dy - ay) * (by' - ay))) 0 < gm_lo (gm_hi ((cx - ax) * (bx - ax) + (cy - ay) * (by' - ay)) ((dx - ax) * (bx - ax) + (dy - ay) * (by' - ay))) ((bx - ax) * (bx - ax) + (by' - ay) * (by' - ay)) := by rw [e11, e9, e7, e5]; exact Iff.rfl
        have : -4000 ≤ z4 ∧ z4 ≤ 4000 := by rw [e5]; split <;> omega
        have : -4000 ≤ z6 ∧ z6 ≤ 4000 := by rw [e7]; split <;> omega
        have : -4000 ≤ z8 ∧ z8 ≤ 4000 := by rw [e9]; split <;> omega
        have : -4000 ≤ z10 ∧ z10 ≤ 4000 := by rw [e11]; split <;> omega
        refine AQ.ic_le (tgt := 236) eX9_meet_229 (by decide) (by first | assumption | exact ⟨by omega, by omega⟩) (by first | assumption | exact ⟨by omega, by omega⟩) (fun br12 => ?_) (fun br12 => ?_)
        · skip
          refine q_blk (lv2 := [(0, vi ax), (1, vi ay), (2, vi bx), (3, vi by'), (4, vi cx), (5, vi cy), (6, vi dx), (7, vi dy), (8, vi (((bx - ax) * (dy - cy)) - ((by' - ay) * (dx - cx)))), (9, vi (((cx - ax) * (dy - cy)) - ((cy - ay) * (dx - cx)))), (10, vi (((cx - ax) * (by' - ay)) - ((cy - ay) * (bx - ax)))), (11, vi (((bx - ax) * (bx - ax)) + ((by' - ay) * (by' - ay)))), (12, vi (((cx - ax) * (bx - ax)) + ((cy - ay) * (by' - ay)))), (13, vi (((dx - ax) * (bx - ax)) + ((dy - ay) * (by' - ay))))]) (st2 := [vi 0]) kX9_meet_236 rfl ?_
          exact q_rz rfl eX9_meet_237 (by decide) ⟨0, rfl, Or.inr ⟨rfl, fun q9 => by first | (have := (hP (by omega)).mp q9; omega) | (have := (hN (by omega)).mp q9; omega) | exact hZ (by omega) (by omega) q9 | (have := k1.mpr ((hC (by omega) (by omega)).mp q9); omega)⟩, rfl⟩
        · skip
          refine q_blk (lv2 := [(0, vi ax), (1, vi ay), (2, vi bx), (3, vi by'), (4, vi cx), (5, vi cy), (6, vi dx), (7, vi dy), (8, vi (((bx - ax) * (dy - cy)) - ((by' - ay) * (dx - cx)))), (9, vi (((cx - ax) * (dy - cy)) - ((cy - ay) * (dx - cx)))), (10, vi (((cx - ax) * (by' - ay)) - ((cy - ay) * (bx - ax)))), (11, vi (((bx - ax) * (bx - ax)) + ((by' - ay) * (by' - ay)))), (12, vi (((cx - ax) * (bx - ax)) + ((cy - ay) * (by' - ay)))), (13, vi (((dx - ax) * (bx - ax)) + ((dy - ay) * (by' - ay))))]) (st2 := [vi 1]) kX9_meet_232 rfl ?_
          refine q_goto (tgt := 237) eX9_meet_233 (by decide) ?_
          exact q_rz rfl eX9_meet_237 (by decide) ⟨1, rfl, Or.inl ⟨rfl, by first | exact (hC (by omega) (by omega)).mpr (k1.mp (by omega)) | exact (hP (by omega)).mpr (by omega) | exact (hN (by omega)).mpr (by omega)⟩, rfl⟩
      · skip
        refine q_blk (lv2 := [(0, vi ax), (1, vi ay), (2, vi bx), (3, vi by'), (4, vi cx), (5, vi cy), (6, vi dx), (7, vi dy), (8, vi (((bx - ax) * (dy - cy)) - ((by' - ay) * (dx - cx)))), (9, vi (((cx - ax) * (dy - cy)) - ((cy - ay) * (dx - cx)))), (10, vi (((cx - ax) * (by' - ay)) - ((cy - ay) * (bx - ax))))]) (st2 := [vi 0]) kX9_meet_149 rfl ?_
        exact q_rz rfl eX9_meet_150 (by decide) ⟨0, rfl, Or.inr ⟨rfl, fun q9 => by first | (have := (hP (by omega)).mp q9; omega) | (have := (hN (by omega)).mp q9; omega) | exact hZ (by omega) (by omega) q9⟩, rfl⟩
    · skip
      refine q_blk (lv2 := [(0, vi ax), (1, vi ay), (2, vi bx), (3, vi by'), (4, vi cx), (5, vi cy), (6, vi dx), (7, vi dy), (8, vi (((bx - ax) * (dy - cy)) - ((by' - ay) * (dx - cx)))), (9, vi (((cx - ax) * (dy - cy)) - ((cy - ay) * (dx - cx)))), (10, vi (((cx - ax) * (by' - ay)) - ((cy - ay) * (bx - ax))))]) (st2 := [vi (((cx - ax) * (dy - cy)) - ((cy - ay) * (dx - cx)))]) kX9_meet_88 rfl ?_
      refine AQ.if_lt (tgt := 112) eX9_meet_90 (by decide) (by first | assumption | exact ⟨by omega, by omega⟩) (fun br13 => ?_) (fun br13 => ?_)
      · skip
        refine q_blk (lv2 := [(0, vi ax), (1, vi ay), (2, vi bx), (3, vi by'), (4, vi cx), (5, vi cy), (6, vi dx), (7, vi dy), (8, vi (((bx - ax) * (dy - cy)) - ((by' - ay) * (dx - cx)))), (9, vi (((cx - ax) * (dy - cy)) - ((cy - ay) * (dx - cx)))), (10, vi (((cx - ax) * (by' - ay)) - ((cy - ay) * (bx - ax))))]) (st2 := [vi 0]) kX9_meet_112 rfl ?_
        exact q_rz rfl eX9_meet_113 (by decide) ⟨0, rfl, Or.inr ⟨rfl, fun q9 => by first | (have := (hP (by omega)).mp q9; omega) | (have := (hN (by omega)).mp q9; omega) | exact hZ (by omega) (by omega) q9⟩, rfl⟩
      · skip
        refine q_blk (lv2 := [(0, vi ax), (1, vi ay), (2, vi bx), (3, vi by'), (4, vi cx), (5, vi cy), (6, vi dx), (7, vi dy), (8, vi (((bx - ax) * (dy - cy)) - ((by' - ay) * (dx - cx)))), (9, vi (((cx - ax) * (dy - cy)) - ((cy - ay) * (dx - cx)))), (10, vi (((cx - ax) * (by' - ay)) - ((cy - ay) * (bx - ax))))]) (st2 := [vi (((bx - ax) * (dy - cy)) - ((by' - ay) * (dx - cx))), vi (((cx - ax) * (dy - cy)) - ((cy - ay) * (dx - cx)))]) kX9_meet_93 rfl ?_
        refine AQ.ic_gt (tgt := 112) eX9_meet_97 (by decide) (by first | assumption | exact ⟨by omega, by omega⟩) (by first | assumption | exact ⟨by omega, by omega⟩) (fun br14 => ?_) (fun br14 => ?_)
        · skip
          refine q_blk (lv2 := [(0, vi ax), (1, vi ay), (2, vi bx), (3, vi by'), (4, vi cx), (5, vi cy), (6, vi dx), (7, vi dy), (8, vi (((bx - ax) * (dy - cy)) - ((by' - ay) * (dx - cx)))), (9, vi (((cx - ax) * (dy - cy)) - ((cy - ay) * (dx - cx)))), (10, vi (((cx - ax) * (by' - ay)) - ((cy - ay) * (bx - ax))))]) (st2 := [vi 0]) kX9_meet_112 rfl ?_
          exact q_rz rfl eX9_meet_113 (by decide) ⟨0, rfl, Or.inr ⟨rfl, fun q9 => by first | (have := (hP (by omega)).mp q9; omega) | (have := (hN (by omega)).mp q9; omega) | exact hZ (by omega) (by omega) q9⟩, rfl⟩
        · skip
          refine q_blk (lv2 := [(0, vi ax), (1, vi ay), (2, vi bx), (3, vi by'), (4, vi cx), (5, vi cy), (6, vi dx), (7, vi dy), (8, vi (((bx - ax) * (dy - cy)) - ((by' - ay) * (dx - cx)))), (9, vi (((cx - ax) * (dy - cy)) - ((cy - ay) * (dx - cx)))), (10, vi (((cx - ax) * (by' - ay)) - ((cy - ay) * (bx - ax))))]) (st2 := [vi (((cx - ax) * (by' - ay)) - ((cy - ay) * (bx - ax)))]) kX9_meet_100 rfl ?_
          refine AQ.if_lt (tgt := 112) eX9_meet_102 (by decide) (by first | assumption | exact ⟨by omega, by omega⟩) (fun br15 => ?_) (fun br15 => ?_)
          · skip
            refine q_blk (lv2 := [(0, vi ax), (1, vi ay), (2, vi bx), (3, vi by'), (4, vi cx), (5, vi cy), (6, vi dx), (7, vi dy), (8, vi (((bx - ax) * (dy - cy)) - ((by' - ay) * (dx - cx)))), (9, vi (((cx - ax) * (dy - cy)) - ((cy - ay) * (dx - cx)))), (10, vi (((cx - ax) * (by' - ay)) - ((cy - ay) * (bx - ax))))]) (st2 := [vi 0]) kX9_meet_112 rfl ?_
            exact q_rz rfl eX9_meet_113 (by decide) ⟨0, rfl, Or.inr ⟨rfl, fun q9 => by first | (have := (hP (by omega)).mp q9; omega) | (have := (hN (by omega)).mp q9; omega) | exact hZ (by omega) (by omega) q9⟩, rfl⟩
          · skip
            refine q_blk (lv2 := [(0, vi ax), (1, vi ay), (2, vi bx), (3, vi by'), (4, vi cx), (5, vi cy), (6, vi dx), (7, vi dy), (8, vi (((bx - ax) * (dy - cy)) - ((by' - ay) * (dx - cx)))), (9, vi (((cx - ax) * (dy - cy)) - ((cy - ay) * (dx - cx)))), (10, vi (((cx - ax) * (by' - ay)) - ((cy - ay) * (bx - ax))))]) (st2 := [vi (((bx - ax) * (dy - cy)) - ((by' - ay) * (dx - cx))), vi (((cx - ax) * (by' - ay)) - ((cy - ay) * (bx - ax)))]) kX9_meet_105 rfl ?_
            refine AQ.ic_le (tgt := 114) eX9_meet_109 (by decide) (by first | assumption | exact ⟨by omega, by omega⟩) (by first | assumption | exact ⟨by omega, by omega⟩) (fun br16 => ?_) (fun br16 => ?_)
            · skip
              refine q_blk (lv2 := [(0, vi ax), (1, vi ay), (2, vi bx), (3, vi by'), (4, vi cx), (5, vi cy), (6, vi dx), (7, vi dy), (8, vi (((bx - ax) * (dy - cy)) - ((by' - ay) * (dx - cx)))), (9, vi (((cx - ax) * (dy - cy)) - ((cy - ay) * (dx - cx)))), (10, vi (((cx - ax) * (by' - ay)) - ((cy - ay) * (bx - ax))))]) (st2 := [vi (((cx - ax) * (dy - cy)) - ((cy - ay) * (dx - cx)))]) kX9_meet_114 rfl ?_
              refine AQ.if_eq (tgt := 126) eX9_meet_116 (by decide) (by first | assumption | exact ⟨by omega, by omega⟩) (fun br17 => ?_) (fun br17 => ?_)
              · skip
                refine q_blk (lv2 := [(0, vi ax), (1, vi ay), (2, vi bx), (3, vi by'), (4, vi cx), (5, vi cy), (6, vi dx), (7, vi dy), (8, vi (((bx - ax) * (dy - cy)) - ((by' - ay) * (dx - cx)))), (9, vi (((cx - ax) * (dy - cy)) - ((cy - ay) * (dx - cx)))), (10, vi (((cx - ax) * (by' - ay)) - ((cy - ay) * (bx - ax))))]) (st2 := [vi (((cx - ax) * (by' - ay)) - ((cy - ay) * (bx - ax)))]) kX9_meet_126 rfl ?_
                refine AQ.if_eq (tgt := 142) eX9_meet_128 (by decide) (by first | assumption | exact ⟨by omega, by omega⟩) (fun br18 => ?_) (fun br18 => ?_)
                · skip
                  refine q_blk (lv2 := [(0, vi ax), (1, vi ay), (2, vi bx), (3, vi by'), (4, vi cx), (5, vi cy), (6, vi dx), (7, vi dy), (8, vi (((bx - ax) * (dy - cy)) - ((by' - ay) * (dx - cx)))), (9, vi (((cx - ax) * (dy - cy)) - ((cy - ay) * (dx - cx)))), (10, vi (((cx - ax) * (by' - ay)) - ((cy - ay) * (bx - ax))))]) (st2 := [vi 0]) kX9_meet_142 rfl ?_
                  exact q_rz rfl eX9_meet_143 (by decide) ⟨0, rfl, Or.inr ⟨rfl, fun q9 => by first | (have := (hP (by omega)).mp q9; omega) | (have := (hN (by omega)).mp q9; omega) | exact hZ (by omega) (by omega) q9⟩, rfl⟩
                · skip
                  refine q_blk (lv2 := [(0, vi ax), (1, vi ay), (2, vi bx), (3, vi by'), (4, vi cx), (5, vi cy), (6, vi dx), (7, vi dy), (8, vi (((bx - ax) * (dy - cy)) - ((by' - ay) * (dx - cx)))), (9, vi (((cx - ax) * (dy - cy)) - ((cy - ay) * (dx - cx)))), (10, vi (((cx - ax) * (by' - ay)) - ((cy - ay) * (bx - ax))))]) (st2 := [vi (((bx - ax) * (dy - cy)) - ((by' - ay) * (dx - cx))), vi (((cx - ax) * (by' - ay)) - ((cy - ay) * (bx - ax)))]) kX9_meet_131 rfl ?_
                  refine AQ.ic_eq (tgt := 142) eX9_meet_135 (by decide) (by first | assumption | exact ⟨by omega, by omega⟩) (by first | assumption | exact ⟨by omega, by omega⟩) (fun br19 => ?_) (fun br19 => ?_)
                  · skip
                    refine q_blk (lv2 := [(0, vi ax), (1, vi ay), (2, vi bx), (3, vi by'), (4, vi cx), (5, vi cy), (6, vi dx), (7, vi dy), (8, vi (((bx - ax) * (dy - cy)) - ((by' - ay) * (dx - cx)))), (9, vi (((cx - ax) * (dy - cy)) - ((cy - ay) * (dx - cx)))), (10, vi (((cx - ax) * (by' - ay)) - ((cy - ay) * (bx - ax))))]) (st2 := [vi 0]) kX9_meet_142 rfl ?_
                    exact q_rz rfl eX9_meet_143 (by decide) ⟨0, rfl, Or.inr ⟨rfl, fun q9 => by first | (have := (hP (by omega)).mp q9; omega) | (have := (hN (by omega)).mp q9; omega) | exact hZ (by omega) (by omega) q9⟩, rfl⟩
                  · skip
                    refine q_blk (lv2 := [(0, vi ax), (1, vi ay), (2, vi bx), (3, vi by'), (4, vi cx), (5, vi cy), (6, vi dx), (7, vi dy), (8, vi (((bx - ax) * (dy - cy)) - ((by' - ay) * (dx - cx)))), (9, vi (((cx - ax) * (dy - cy)) - ((cy - ay) * (dx - cx)))), (10, vi (((cx - ax) * (by' - ay)) - ((cy - ay) * (bx - ax))))]) (st2 := [vi 1]) kX9_meet_138 rfl ?_
                    refine q_goto (tgt := 143) eX9_meet_139 (by decide) ?_
                    exact q_rz rfl eX9_meet_143 (by decide) ⟨1, rfl, Or.inl ⟨rfl, by first | exact (hP (by omega)).mpr (by omega) | exact (hN (by omega)).mpr (by omega)⟩, rfl⟩
              · skip
                refine q_blk (lv2 := [(0, vi ax), (1, vi ay), (2, vi bx), (3, vi by'), (4, vi cx), (5, vi cy), (6, vi dx), (7, vi dy), (8, vi (((bx - ax) * (dy - cy)) - ((by' - ay) * (dx - cx)))), (9, vi (((cx - ax) * (dy - cy)) - ((cy - ay) * (dx - cx)))), (10, vi (((cx - ax) * (by' - ay)) - ((cy - ay) * (bx - ax))))]) (st2 := [vi (((bx - ax) * (dy - cy)) - ((by' - ay) * (dx - cx))), vi (((cx - ax) * (dy - cy)) - ((cy - ay) * (dx - cx)))]) kX9_meet_119 rfl ?_
                refine AQ.ic_ne (tgt := 138) eX9_meet_123 (by decide) (by first | assumption | exact ⟨by omega, by omega⟩) (by first | assumption | exact ⟨by omega, by omega⟩) (fun br20 => ?_) (fun br20 => ?_)
                · skip
                  refine q_blk (lv2 := [(0, vi ax), (1, vi ay), (2, vi bx), (3, vi by'), (4, vi cx), (5, vi cy), (6, vi dx), (7, vi dy), (8, vi (((bx - ax) * (dy - cy)) - ((by' - ay) * (dx - cx)))), (9, vi (((cx - ax) * (dy - cy)) - ((cy - ay) * (dx - cx)))), (10, vi (((cx - ax) * (by' - ay)) - ((cy - ay) * (bx - ax))))]) (st2 := [vi 1]) kX9_meet_138 rfl ?_
                  refine q_goto (tgt := 143) eX9_meet_139 (by decide) ?_
                  exact q_rz rfl eX9_meet_143 (by decide) ⟨1, rfl, Or.inl ⟨rfl, by first | exact (hP (by omega)).mpr (by omega) | exact (hN (by omega)).mpr (by omega)⟩, rfl⟩
                · skip
                  refine q_blk (lv2 := [(0, vi ax), (1, vi ay), (2, vi bx), (3, vi by'), (4, vi cx), (5, vi cy), (6, vi dx), (7, vi dy), (8, vi (((bx - ax) * (dy - cy)) - ((by' - ay) * (dx - cx)))), (9, vi (((cx - ax) * (dy - cy)) - ((cy - ay) * (dx - cx)))), (10, vi (((cx - ax) * (by' - ay)) - ((cy - ay) * (bx - ax))))]) (st2 := [vi (((cx - ax) * (by' - ay)) - ((cy - ay) * (bx - ax)))]) kX9_meet_126 rfl ?_
                  refine AQ.if_eq (tgt := 142) eX9_meet_128 (by decide) (by first | assumption | exact ⟨by omega, by omega⟩) (fun br21 => ?_) (fun br21 => ?_)
                  · skip
                    refine q_blk (lv2 := [(0, vi ax), (1, vi ay), (2, vi bx), (3, vi by'), (4, vi cx), (5, vi cy), (6, vi dx), (7, vi dy), (8, vi (((bx - ax) * (dy - cy)) - ((by' - ay) * (dx - cx)))), (9, vi (((cx - ax) * (dy - cy)) - ((cy - ay) * (dx - cx)))), (10, vi (((cx - ax) * (by' - ay)) - ((cy - ay) * (bx - ax))))]) (st2 := [vi 0]) kX9_meet_142 rfl ?_
                    exact q_rz rfl eX9_meet_143 (by decide) ⟨0, rfl, Or.inr ⟨rfl, fun q9 => by first | (have := (hP (by omega)).mp q9; omega) | (have := (hN (by omega)).mp q9; omega) | exact hZ (by omega) (by omega) q9⟩, rfl⟩
                  · skip
                    refine q_blk (lv2 := [(0, vi ax), (1, vi ay), (2, vi bx), (3, vi by'), (4, vi cx), (5, vi cy), (6, vi dx), (7, vi dy), (8, vi (((bx - ax) * (dy - cy)) - ((by' - ay) * (dx - cx)))), (9, vi (((cx - ax) * (dy - cy)) - ((cy - ay) * (dx - cx)))), (10, vi (((cx - ax) * (by' - ay)) - ((cy - ay) * (bx - ax))))]) (st2 := [vi (((bx - ax) * (dy - cy)) - ((by' - ay) * (dx - cx))), vi (((cx - ax) * (by' - ay)) - ((cy - ay) * (bx - ax)))]) kX9_meet_131 rfl ?_
                    refine AQ.ic_eq (tgt := 142) eX9_meet_135 (by decide) (by first | assumption | exact ⟨by omega, by omega⟩) (by first | assumption | exact ⟨by omega, by omega⟩) (fun br22 => ?_) (fun br22 => ?_)
                    · skip
                      refine q_blk (lv2 := [(0, vi ax), (1, vi ay), (2, vi bx), (3, vi by'), (4, vi cx), (5, vi cy), (6, vi dx), (7, vi dy), (8, vi (((bx - ax) * (dy - cy)) - ((by' - ay) * (dx - cx)))), (9, vi (((cx - ax) * (dy - cy)) - ((cy - ay) * (dx - cx)))), (10, vi (((cx - ax) * (by' - ay)) - ((cy - ay) * (bx - ax))))]) (st2 := [vi 0]) kX9_meet_142 rfl ?_
                      exact q_rz rfl eX9_meet_143 (by decide) ⟨0, rfl, Or.inr ⟨rfl, fun q9 => by first | (have := (hP (by omega)).mp q9; omega) | (have := (hN (by omega)).mp q9; omega) | exact hZ (by omega) (by omega) q9⟩, rfl⟩
                    · skip
                      refine q_blk (lv2 := [(0, vi ax), (1, vi ay), (2, vi bx), (3, vi by'), (4, vi cx), (5, vi cy), (6, vi dx), (7, vi dy), (8, vi (((bx - ax) * (dy - cy)) - ((by' - ay) * (dx - cx)))), (9, vi (((cx - ax) * (dy - cy)) - ((cy - ay) * (dx - cx)))), (10, vi (((cx - ax) * (by' - ay)) - ((cy - ay) * (bx - ax))))]) (st2 := [vi 1]) kX9_meet_138 rfl ?_
                      refine q_goto (tgt := 143) eX9_meet_139 (by decide) ?_
                      exact q_rz rfl eX9_meet_143 (by decide) ⟨1, rfl, Or.inl ⟨rfl, by first | exact (hP (by omega)).mpr (by omega) | exact (hN (by omega)).mpr (by omega)⟩, rfl⟩
            · skip
              refine q_blk (lv2 := [(0, vi ax), (1, vi ay), (2, vi bx), (3, vi by'), (4, vi cx), (5, vi cy), (6, vi dx), (7, vi dy), (8, vi (((bx - ax) * (dy - cy)) - ((by' - ay) * (dx - cx)))), (9, vi (((cx - ax) * (dy - cy)) - ((cy - ay) * (dx - cx)))), (10, vi (((cx - ax) * (by' - ay)) - ((cy - ay) * (bx - ax))))]) (st2 := [vi 0]) kX9_meet_112 rfl ?_
              exact q_rz rfl eX9_meet_113 (by decide) ⟨0, rfl, Or.inr ⟨rfl, fun q9 => by first | (have := (hP (by omega)).mp q9; omega) | (have := (hN (by omega)).mp q9; omega) | exact hZ (by omega) (by omega) q9⟩, rfl⟩
  · skip
    refine q_blk (lv2 := [(0, vi ax), (1, vi ay), (2, vi bx), (3, vi by'), (4, vi cx), (5, vi cy), (6, vi dx), (7, vi dy), (8, vi (-(((bx - ax) * (dy - cy)) - ((by' - ay) * (dx - cx))))), (9, vi (-(((cx - ax) * (dy - cy)) - ((cy - ay) * (dx - cx))))), (10, vi (-(((cx - ax) * (by' - ay)) - ((cy - ay) * (bx - ax)))))]) (st2 := []) kX9_meet_68 rfl ?_
    refine q_blk (lv2 := [(0, vi ax), (1, vi ay), (2, vi bx), (3, vi by'), (4, vi cx), (5, vi cy), (6, vi dx), (7, vi dy), (8, vi (-(((bx - ax) * (dy - cy)) - ((by' - ay) * (dx - cx))))), (9, vi (-(((cx - ax) * (dy - cy)) - ((cy - ay) * (dx - cx))))), (10, vi (-(((cx - ax) * (by' - ay)) - ((cy - ay) * (bx - ax)))))]) (st2 := [vi (-(((bx - ax) * (dy - cy)) - ((by' - ay) * (dx - cx))))]) kX9_meet_83 rfl ?_
    refine AQ.if_le (tgt := 144) eX9_meet_85 (by decide) (by first | assumption | exact ⟨by omega, by omega⟩) (fun br23 => ?_) (fun br23 => ?_)
    · skip
      refine q_blk (lv2 := [(0, vi ax), (1, vi ay), (2, vi bx), (3, vi by'), (4, vi cx), (5, vi cy), (6, vi dx), (7, vi dy), (8, vi (-(((bx - ax) * (dy - cy)) - ((by' - ay) * (dx - cx))))), (9, vi (-(((cx - ax) * (dy - cy)) - ((cy - ay) * (dx - cx))))), (10, vi (-(((cx - ax) * (by' - ay)) - ((cy - ay) * (bx - ax)))))]) (st2 := [vi (-(((cx - ax) * (by' - ay)) - ((cy - ay) * (bx - ax))))]) kX9_meet_144 rfl ?_
      refine AQ.if_eq (tgt := 151) eX9_meet_146 (by decide) (by first | assumption | exact ⟨by omega, by omega⟩) (fun br24 => ?_) (fun br24 => ?_)
      · skip
        refine q_blk (lv2 := [(0, vi ax), (1, vi ay), (2, vi bx), (3, vi by'), (4, vi cx), (5, vi cy), (6, vi dx), (7, vi dy), (8, vi (-(((bx - ax) * (dy - cy)) - ((by' - ay) * (dx - cx))))), (9, vi (-(((cx - ax) * (dy - cy)) - ((cy - ay) * (dx - cx))))), (10, vi (-(((cx - ax) * (by' - ay)) - ((cy - ay) * (bx - ax))))), (11, vi (((bx - ax) * (bx - ax)) + ((by' - ay) * (by' - ay)))), (12, vi (((cx - ax) * (bx - ax)) + ((cy - ay) * (by' - ay)))), (13, vi (((dx - ax) * (bx - ax)) + ((dy - ay) * (by' - ay))))]) (st2 := [vi (((dx - ax) * (bx - ax)) + ((dy - ay) * (by' - ay))), vi (((cx - ax) * (bx - ax)) + ((cy - ay) * (by' - ay)))]) kX9_meet_151 rfl ?_
        refine AQ.of (AS.mmax eX9_meet_210 (by first | assumption | exact ⟨by omega, by omega⟩) (by first | assumption | exact ⟨by omega, by omega⟩) (am_gw 566 (by decide +kernel) (by decide +kernel)) (am_gw 567 (by decide +kernel) (by decide +kernel)) (am_gw 53 (by decide +kernel) (by decide +kernel)) (am_gw 568 (by decide +kernel) (by decide +kernel)) (by decide) (Nat.le_of_ble_eq_true rfl)) ?_
        obtain ⟨z25, e26⟩ : ∃ q : Int, q = (if (((cx - ax) * (bx - ax)) + ((cy - ay) * (by' - ay))) < (((dx - ax) * (bx - ax)) + ((dy - ay) * (by' - ay))) then (((dx - ax) * (bx - ax)) + ((dy - ay) * (by' - ay))) else (((cx - ax) * (bx - ax)) + ((cy - ay) * (by' - ay)))) := ⟨_, rfl⟩
        rw [← e26]
        refine q_blk (lv2 := [(0, vi ax), (1, vi ay), (2, vi bx), (3, vi by'), (4, vi cx), (5, vi cy), (6, vi dx), (7, vi dy), (8, vi (-(((bx - ax) * (dy - cy)) - ((by' - ay) * (dx - cx))))), (9, vi (-(((cx - ax) * (dy - cy)) - ((cy - ay) * (dx - cx))))), (10, vi (-(((cx - ax) * (by' - ay)) - ((cy - ay) * (bx - ax))))), (11, vi (((bx - ax) * (bx - ax)) + ((by' - ay) * (by' - ay)))), (12, vi (((cx - ax) * (bx - ax)) + ((cy - ay) * (by' - ay)))), (13, vi (((dx - ax) * (bx - ax)) + ((dy - ay) * (by' - ay))))]) (st2 := [vi (((bx - ax) * (bx - ax)) + ((by' - ay) * (by' - ay))), vi z25]) kX9_meet_213 rfl ?_
        refine AQ.of (AS.mmin eX9_meet_215 (by first | assumption | exact ⟨by omega, by omega⟩) (by first | assumption | exact ⟨by omega, by omega⟩) (am_gw 569 (by decide +kernel) (by decide +kernel)) (am_gw 570 (by decide +kernel) (by decide +kernel)) (am_gw 53 (by decide +kernel) (by decide +kernel)) (am_gw 571 (by decide +kernel) (by decide +kernel)) (by decide) (Nat.le_of_ble_eq_true rfl)) ?_
        obtain ⟨z27, e28⟩ : ∃ q : Int, q = (if (((bx - ax) * (bx - ax)) + ((by' - ay) * (by' - ay))) < z25 then (((bx - ax) * (bx - ax)) + ((by' - ay) * (by' - ay))) else z25) := ⟨_, rfl⟩
        rw [← e28]
        refine q_blk (lv2 := [(0, vi ax), (1, vi ay), (2, vi bx), (3, vi by'), (4, vi cx), (5, vi cy), (6, vi dx), (7, vi dy), (8, vi (-(((bx - ax) * (dy - cy)) - ((by' - ay) * (dx - cx))))), (9, vi (-(((cx - ax) * (dy - cy)) - ((cy - ay) * (dx - cx))))), (10, vi (-(((cx - ax) * (by' - ay)) - ((cy - ay) * (bx - ax))))), (11, vi (((bx - ax) * (bx - ax)) + ((by' - ay) * (by' - ay)))), (12, vi (((cx - ax) * (bx - ax)) + ((cy - ay) * (by' - ay)))), (13, vi (((dx - ax) * (bx - ax)) + ((dy - ay) * (by' - ay))))]) (st2 := [vi (((dx - ax) * (bx - ax)) + ((dy - ay) * (by' - ay))), vi (((cx - ax) * (bx - ax)) + ((cy - ay) * (by' - ay))), vi z27]) kX9_meet_218 rfl ?_
        refine AQ.of (AS.mmin eX9_meet_222 (by first | assumption | exact ⟨by omega, by omega⟩) (by first | assumption | exact ⟨by omega, by omega⟩) (am_gw 569 (by decide +kernel) (by decide +kernel)) (am_gw 570 (by decide +kernel) (by decide +kernel)) (am_gw 53 (by decide +kernel) (by decide +kernel)) (am_gw 571 (by decide +kernel) (by decide +kernel)) (by decide) (Nat.le_of_ble_eq_true rfl)) ?_
        obtain ⟨z29, e30⟩ : ∃ q : Int, q = (if (((dx - ax) * (bx - ax)) + ((dy - ay) * (by' - ay))) < (((cx - ax) * (bx - ax)) + ((cy - ay) * (by' - ay))) then (((dx - ax) * (bx - ax)) + ((dy - ay) * (by' - ay))) else (((cx - ax) * (bx - ax)) + ((cy - ay) * (by' - ay)))) := ⟨_, rfl⟩
        rw [← e30]
        refine q_blk (lv2 := [(0, vi ax), (1, vi ay), (2, vi bx), (3, vi by'), (4, vi cx), (5, vi cy), (6, vi dx), (7, vi dy), (8, vi (-(((bx - ax) * (dy - cy)) - ((by' - ay) * (dx - cx))))), (9, vi (-(((cx - ax) * (dy - cy)) - ((cy - ay) * (dx - cx))))), (10, vi (-(((cx - ax) * (by' - ay)) - ((cy - ay) * (bx - ax))))), (11, vi (((bx - ax) * (bx - ax)) + ((by' - ay) * (by' - ay)))), (12, vi (((cx - ax) * (bx - ax)) + ((cy - ay) * (by' - ay)))), (13, vi (((dx - ax) * (bx - ax)) + ((dy - ay) * (by' - ay))))]) (st2 := [vi 0, vi z29, vi z27]) kX9_meet_225 rfl ?_
        refine AQ.of (AS.mmax eX9_meet_226 (by first | assumption | exact ⟨by omega, by omega⟩) ⟨by decide, by decide⟩ (am_gw 566 (by decide +kernel) (by decide +kernel)) (am_gw 567 (by decide +kernel) (by decide +kernel)) (am_gw 53 (by decide +kernel) (by decide +kernel)) (am_gw 568 (by decide +kernel) (by decide +kernel)) (by decide) (Nat.le_of_ble_eq_true rfl)) ?_
        obtain ⟨z31, e32⟩ : ∃ q : Int, q = (if z29 < 0 then 0 else z29) := ⟨_, rfl⟩
        rw [← e32]
        have k1 : z31 < z27 ↔ gm_hi (gm_lo ((cx - ax) * (bx - ax) + (cy - ay) * (by' - ay)) ((dx - ax) * (bx - ax) + (dy - ay) * (by' - ay))) 0 < gm_lo (gm_hi ((cx - ax) * (bx - ax) + (cy - ay) * (by' - ay)) ((dx - ax) * (bx - ax) + (dy - ay) * (by' - ay))) ((bx - ax) * (bx - ax) + (by' - ay) * (by' - ay)) := by rw [e32, e30, e28, e26]; exact Iff.rfl
        have : -4000 ≤ z25 ∧ z25 ≤ 4000 := by rw [e26]; split <;> omega
        have : -4000 ≤ z27 ∧ z27 ≤ 4000 := by rw [e28]; split <;> omega
        have : -4000 ≤ z29 ∧ z29 ≤ 4000 := by rw [e30]; split <;> omega
        have : -4000 ≤ z31 ∧ z31 ≤ 4000 := by rw [e32]; split <;> omega
        refine AQ.ic_le (tgt := 236) eX9_meet_229 (by decide) (by first | assumption | exact ⟨by omega, by omega⟩) (by first | assumption | exact ⟨by omega, by omega⟩) (fun br33 => ?_) (fun br33 => ?_)
        · skip
          refine q_blk (lv2 := [(0, vi ax), (1, vi ay), (2, vi bx), (3, vi by'), (4, vi cx), (5, vi cy), (6, vi dx), (7, vi dy), (8, vi (-(((bx - ax) * (dy - cy)) - ((by' - ay) * (dx - cx))))), (9, vi (-(((cx - ax) * (dy - cy)) - ((cy - ay) * (dx - cx))))), (10, vi (-(((cx - ax) * (by' - ay)) - ((cy - ay) * (bx - ax))))), (11, vi (((bx - ax) * (bx - ax)) + ((by' - ay) * (by' - ay)))), (12, vi (((cx - ax) * (bx - ax)) + ((cy - ay) * (by' - ay)))), (13, vi (((dx - ax) * (bx - ax)) + ((dy - ay) * (by' - ay))))]) (st2 := [vi 0]) kX9_meet_236 rfl ?_
          exact q_rz rfl eX9_meet_237 (by decide) ⟨0, rfl, Or.inr ⟨rfl, fun q9 => by first | (have := (hP (by omega)).mp q9; omega) | (have := (hN (by omega)).mp q9; omega) | exact hZ (by omega) (by omega) q9 | (have := k1.mpr ((hC (by omega) (by omega)).mp q9); omega)⟩, rfl⟩
        · skip
          refine q_blk (lv2 := [(0, vi ax), (1, vi ay), (2, vi bx), (3, vi by'), (4, vi cx), (5, vi cy), (6, vi dx), (7, vi dy), (8, vi (-(((bx - ax) * (dy - cy)) - ((by' - ay) * (dx - cx))))), (9, vi (-(((cx - ax) * (dy - cy)) - ((cy - ay) * (dx - cx))))), (10, vi (-(((cx - ax) * (by' - ay)) - ((cy - ay) * (bx - ax))))), (11, vi (((bx - ax) * (bx - ax)) + ((by' - ay) * (by' - ay)))), (12, vi (((cx - ax) * (bx - ax)) + ((cy - ay) * (by' - ay)))), (13, vi (((dx - ax) * (bx - ax)) + ((dy - ay) * (by' - ay))))]) (st2 := [vi 1]) kX9_meet_232 rfl ?_
          refine q_goto (tgt := 237) eX9_meet_233 (by decide) ?_
          exact q_rz rfl eX9_meet_237 (by decide) ⟨1, rfl, Or.inl ⟨rfl, by first | exact (hC (by omega) (by omega)).mpr (k1.mp (by omega)) | exact (hP (by omega)).mpr (by omega) | exact (hN (by omega)).mpr (by omega)⟩, rfl⟩
      · skip
        refine q_blk (lv2 := [(0, vi ax), (1, vi ay), (2, vi bx), (3, vi by'), (4, vi cx), (5, vi cy), (6, vi dx), (7, vi dy), (8, vi (-(((bx - ax) * (dy - cy)) - ((by' - ay) * (dx - cx))))), (9, vi (-(((cx - ax) * (dy - cy)) - ((cy - ay) * (dx - cx))))), (10, vi (-(((cx - ax) * (by' - ay)) - ((cy - ay) * (bx - ax)))))]) (st2 := [vi 0]) kX9_meet_149 rfl ?_
        exact q_rz rfl eX9_meet_150 (by decide) ⟨0, rfl, Or.inr ⟨rfl, fun q9 => by first | (have := (hP (by omega)).mp q9; omega) | (have := (hN (by omega)).mp q9; omega) | exact hZ (by omega) (by omega) q9⟩, rfl⟩
    · skip
      refine q_blk (lv2 := [(0, vi ax), (1, vi ay), (2, vi bx), (3, vi by'), (4, vi cx), (5, vi cy), (6, vi dx), (7, vi dy), (8, vi (-(((bx - ax) * (dy - cy)) - ((by' - ay) * (dx - cx))))), (9, vi (-(((cx - ax) * (dy - cy)) - ((cy - ay) * (dx - cx))))), (10, vi (-(((cx - ax) * (by' - ay)) - ((cy - ay) * (bx - ax)))))]) (st2 := [vi (-(((cx - ax) * (dy - cy)) - ((cy - ay) * (dx - cx))))]) kX9_meet_88 rfl ?_
      refine AQ.if_lt (tgt := 112) eX9_meet_90 (by decide) (by first | assumption | exact ⟨by omega, by omega⟩) (fun br34 => ?_) (fun br34 => ?_)
      · skip
        refine q_blk (lv2 := [(0, vi ax), (1, vi ay), (2, vi bx), (3, vi by'), (4, vi cx), (5, vi cy), (6, vi dx), (7, vi dy), (8, vi (-(((bx - ax) * (dy - cy)) - ((by' - ay) * (dx - cx))))), (9, vi (-(((cx - ax) * (dy - cy)) - ((cy - ay) * (dx - cx))))), (10, vi (-(((cx - ax) * (by' - ay)) - ((cy - ay) * (bx - ax)))))]) (st2 := [vi 0]) kX9_meet_112 rfl ?_
        exact q_rz rfl eX9_meet_113 (by decide) ⟨0, rfl, Or.inr ⟨rfl, fun q9 => by first | (have := (hP (by omega)).mp q9; omega) | (have := (hN (by omega)).mp q9; omega) | exact hZ (by omega) (by omega) q9⟩, rfl⟩
      · skip
        refine q_blk (lv2 := [(0, vi ax), (1, vi ay), (2, vi bx), (3, vi by'), (4, vi cx), (5, vi cy), (6, vi dx), (7, vi dy), (8, vi (-(((bx - ax) * (dy - cy)) - ((by' - ay) * (dx - cx))))), (9, vi (-(((cx - ax) * (dy - cy)) - ((cy - ay) * (dx - cx))))), (10, vi (-(((cx - ax) * (by' - ay)) - ((cy - ay) * (bx - ax)))))]) (st2 := [vi (-(((bx - ax) * (dy - cy)) - ((by' - ay) * (dx - cx)))), vi (-(((cx - ax) * (dy - cy)) - ((cy - ay) * (dx - cx))))]) kX9_meet_93 rfl ?_
        refine AQ.ic_gt (tgt := 112) eX9_meet_97 (by decide) (by first | assumption | exact ⟨by omega, by omega⟩) (by first | assumption | exact ⟨by omega, by omega⟩) (fun br35 => ?_) (fun br35 => ?_)
        · skip
          refine q_blk (lv2 := [(0, vi ax), (1, vi ay), (2, vi bx), (3, vi by'), (4, vi cx), (5, vi cy), (6, vi dx), (7, vi dy), (8, vi (-(((bx - ax) * (dy - cy)) - ((by' - ay) * (dx - cx))))), (9, vi (-(((cx - ax) * (dy - cy)) - ((cy - ay) * (dx - cx))))), (10, vi (-(((cx - ax) * (by' - ay)) - ((cy - ay) * (bx - ax)))))]) (st2 := [vi 0]) kX9_meet_112 rfl ?_
          exact q_rz rfl eX9_meet_113 (by decide) ⟨0, rfl, Or.inr ⟨rfl, fun q9 => by first | (have := (hP (by omega)).mp q9; omega) | (have := (hN (by omega)).mp q9; omega) | exact hZ (by omega) (by omega) q9⟩, rfl⟩
        · skip
          refine q_blk (lv2 := [(0, vi ax), (1, vi ay), (2, vi bx), (3, vi by'), (4, vi cx), (5, vi cy), (6, vi dx), (7, vi dy), (8, vi (-(((bx - ax) * (dy - cy)) - ((by' - ay) * (dx - cx))))), (9, vi (-(((cx - ax) * (dy - cy)) - ((cy - ay) * (dx - cx))))), (10, vi (-(((cx - ax) * (by' - ay)) - ((cy - ay) * (bx - ax)))))]) (st2 := [vi (-(((cx - ax) * (by' - ay)) - ((cy - ay) * (bx - ax))))]) kX9_meet_100 rfl ?_
          refine AQ.if_lt (tgt := 112) eX9_meet_102 (by decide) (by first | assumption | exact ⟨by omega, by omega⟩) (fun br36 => ?_) (fun br36 => ?_)
          · skip
            refine q_blk (lv2 := [(0, vi ax), (1, vi ay), (2, vi bx), (3, vi by'), (4, vi cx), (5, vi cy), (6, vi dx), (7, vi dy), (8, vi (-(((bx - ax) * (dy - cy)) - ((by' - ay) * (dx - cx))))), (9, vi (-(((cx - ax) * (dy - cy)) - ((cy - ay) * (dx - cx))))), (10, vi (-(((cx - ax) * (by' - ay)) - ((cy - ay) * (bx - ax)))))]) (st2 := [vi 0]) kX9_meet_112 rfl ?_
            exact q_rz rfl eX9_meet_113 (by decide) ⟨0, rfl, Or.inr ⟨rfl, fun q9 => by first | (have := (hP (by omega)).mp q9; omega) | (have := (hN (by omega)).mp q9; omega) | exact hZ (by omega) (by omega) q9⟩, rfl⟩
          · skip
            refine q_blk (lv2 := [(0, vi ax), (1, vi ay), (2, vi bx), (3, vi by'), (4, vi cx), (5, vi cy), (6, vi dx), (7, vi dy), (8, vi (-(((bx - ax) * (dy - cy)) - ((by' - ay) * (dx - cx))))), (9, vi (-(((cx - ax) * (dy - cy)) - ((cy - ay) * (dx - cx))))), (10, vi (-(((cx - ax) * (by' - ay)) - ((cy - ay) * (bx - ax)))))]) (st2 := [vi (-(((bx - ax) * (dy - cy)) - ((by' - ay) * (dx - cx)))), vi (-(((cx - ax) * (by' - ay)) - ((cy - ay) * (bx - ax))))]) kX9_meet_105 rfl ?_
            refine AQ.ic_le (tgt := 114) eX9_meet_109 (by decide) (by first | assumption | exact ⟨by omega, by omega⟩) (by first | assumption | exact ⟨by omega, by omega⟩) (fun br37 => ?_) (fun br37 => ?_)
            · skip
              refine q_blk (lv2 := [(0, vi ax), (1, vi ay), (2, vi bx), (3, vi by'), (4, vi cx), (5, vi cy), (6, vi dx), (7, vi dy), (8, vi (-(((bx - ax) * (dy - cy)) - ((by' - ay) * (dx - cx))))), (9, vi (-(((cx - ax) * (dy - cy)) - ((cy - ay) * (dx - cx))))), (10, vi (-(((cx - ax) * (by' - ay)) - ((cy - ay) * (bx - ax)))))]) (st2 := [vi (-(((cx - ax) * (dy - cy)) - ((cy - ay) * (dx - cx))))]) kX9_meet_114 rfl ?_
              refine AQ.if_eq (tgt := 126) eX9_meet_116 (by decide) (by first | assumption | exact ⟨by omega, by omega⟩) (fun br38 => ?_) (fun br38 => ?_)
              · skip
                refine q_blk (lv2 := [(0, vi ax), (1, vi ay), (2, vi bx), (3, vi by'), (4, vi cx), (5, vi cy), (6, vi dx), (7, vi dy), (8, vi (-(((bx - ax) * (dy - cy)) - ((by' - ay) * (dx - cx))))), (9, vi (-(((cx - ax) * (dy - cy)) - ((cy - ay) * (dx - cx))))), (10, vi (-(((cx - ax) * (by' - ay)) - ((cy - ay) * (bx - ax)))))]) (st2 := [vi (-(((cx - ax) * (by' - ay)) - ((cy - ay) * (bx - ax))))]) kX9_meet_126 rfl ?_
                refine AQ.if_eq (tgt := 142) eX9_meet_128 (by decide) (by first | assumption | exact ⟨by omega, by omega⟩) (fun br39 => ?_) (fun br39 => ?_)
                · skip
                  refine q_blk (lv2 := [(0, vi ax), (1, vi ay), (2, vi bx), (3, vi by'), (4, vi cx), (5, vi cy), (6, vi dx), (7, vi dy), (8, vi (-(((bx - ax) * (dy - cy)) - ((by' - ay) * (dx - cx))))), (9, vi (-(((cx - ax) * (dy - cy)) - ((cy - ay) * (dx - cx))))), (10, vi (-(((cx - ax) * (by' - ay)) - ((cy - ay) * (bx - ax)))))]) (st2 := [vi 0]) kX9_meet_142 rfl ?_
                  exact q_rz rfl eX9_meet_143 (by decide) ⟨0, rfl, Or.inr ⟨rfl, fun q9 => by first | (have := (hP (by omega)).mp q9; omega) | (have := (hN (by omega)).mp q9; omega) | exact hZ (by omega) (by omega) q9⟩, rfl⟩
                · skip
                  refine q_blk (lv2 := [(0, vi ax), (1, vi ay), (2, vi bx), (3, vi by'), (4, vi cx), (5, vi cy), (6, vi dx), (7, vi dy), (8, vi (-(((bx - ax) * (dy - cy)) - ((by' - ay) * (dx - cx))))), (9, vi (-(((cx - ax) * (dy - cy)) - ((cy - ay) * (dx - cx))))), (10, vi (-(((cx - ax) * (by' - ay)) - ((cy - ay) * (bx - ax)))))]) (st2 := [vi (-(((bx - ax) * (dy - cy)) - ((by' - ay) * (dx - cx)))), vi (-(((cx - ax) * (by' - ay)) - ((cy - ay) * (bx - ax))))]) kX9_meet_131 rfl ?_
                  refine AQ.ic_eq (tgt := 142) eX9_meet_135 (by decide) (by first | assumption | exact ⟨by omega, by omega⟩) (by first | assumption | exact ⟨by omega, by omega⟩) (fun br40 => ?_) (fun br40 => ?_)
                  · skip
                    refine q_blk (lv2 := [(0, vi ax), (1, vi ay), (2, vi bx), (3, vi by'), (4, vi cx), (5, vi cy), (6, vi dx), (7, vi dy), (8, vi (-(((bx - ax) * (dy - cy)) - ((by' - ay) * (dx - cx))))), (9, vi (-(((cx - ax) * (dy - cy)) - ((cy - ay) * (dx - cx))))), (10, vi (-(((cx - ax) * (by' - ay)) - ((cy - ay) * (bx - ax)))))]) (st2 := [vi 0]) kX9_meet_142 rfl ?_
                    exact q_rz rfl eX9_meet_143 (by decide) ⟨0, rfl, Or.inr ⟨rfl, fun q9 => by first | (have := (hP (by omega)).mp q9; omega) | (have := (hN (by omega)).mp q9; omega) | exact hZ (by omega) (by omega) q9⟩, rfl⟩
                  · skip
                    refine q_blk (lv2 := [(0, vi ax), (1, vi ay), (2, vi bx), (3, vi by'), (4, vi cx), (5, vi cy), (6, vi dx), (7, vi dy), (8, vi (-(((bx - ax) * (dy - cy)) - ((by' - ay) * (dx - cx))))), (9, vi (-(((cx - ax) * (dy - cy)) - ((cy - ay) * (dx - cx))))), (10, vi (-(((cx - ax) * (by' - ay)) - ((cy - ay) * (bx - ax)))))]) (st2 := [vi 1]) kX9_meet_138 rfl ?_
                    refine q_goto (tgt := 143) eX9_meet_139 (by decide) ?_
                    exact q_rz rfl eX9_meet_143 (by decide) ⟨1, rfl, Or.inl ⟨rfl, by first | exact (hP (by omega)).mpr (by omega) | exact (hN (by omega)).mpr (by omega)⟩, rfl⟩
              · skip
                refine q_blk (lv2 := [(0, vi ax), (1, vi ay), (2, vi bx), (3, vi by'), (4, vi cx), (5, vi cy), (6, vi dx), (7, vi dy), (8, vi (-(((bx - ax) * (dy - cy)) - ((by' - ay) * (dx - cx))))), (9, vi (-(((cx - ax) * (dy - cy)) - ((cy - ay) * (dx - cx))))), (10, vi (-(((cx - ax) * (by' - ay)) - ((cy - ay) * (bx - ax)))))]) (st2 := [vi (-(((bx - ax) * (dy - cy)) - ((by' - ay) * (dx - cx)))), vi (-(((cx - ax) * (dy - cy)) - ((cy - ay) * (dx - cx))))]) kX9_meet_119 rfl ?_
                refine AQ.ic_ne (tgt := 138) eX9_meet_123 (by decide) (by first | assumption | exact ⟨by omega, by omega⟩) (by first | assumption | exact ⟨by omega, by omega⟩) (fun br41 => ?_) (fun br41 => ?_)
                · skip
                  refine q_blk (lv2 := [(0, vi ax), (1, vi ay), (2, vi bx), (3, vi by'), (4, vi cx), (5, vi cy), (6, vi dx), (7, vi dy), (8, vi (-(((bx - ax) * (dy - cy)) - ((by' - ay) * (dx - cx))))), (9, vi (-(((cx - ax) * (dy - cy)) - ((cy - ay) * (dx - cx))))), (10, vi (-(((cx - ax) * (by' - ay)) - ((cy - ay) * (bx - ax)))))]) (st2 := [vi 1]) kX9_meet_138 rfl ?_
                  refine q_goto (tgt := 143) eX9_meet_139 (by decide) ?_
                  exact q_rz rfl eX9_meet_143 (by decide) ⟨1, rfl, Or.inl ⟨rfl, by first | exact (hP (by omega)).mpr (by omega) | exact (hN (by omega)).mpr (by omega)⟩, rfl⟩
                · skip
                  refine q_blk (lv2 := [(0, vi ax), (1, vi ay), (2, vi bx), (3, vi by'), (4, vi cx), (5, vi cy), (6, vi dx), (7, vi dy), (8, vi (-(((bx - ax) * (dy - cy)) - ((by' - ay) * (dx - cx))))), (9, vi (-(((cx - ax) * (dy - cy)) - ((cy - ay) * (dx - cx))))), (10, vi (-(((cx - ax) * (by' - ay)) - ((cy - ay) * (bx - ax)))))]) (st2 := [vi (-(((cx - ax) * (by' - ay)) - ((cy - ay) * (bx - ax))))]) kX9_meet_126 rfl ?_
                  refine AQ.if_eq (tgt := 142) eX9_meet_128 (by decide) (by first | assumption | exact ⟨by omega, by omega⟩) (fun br42 => ?_) (fun br42 => ?_)
                  · skip
                    refine q_blk (lv2 := [(0, vi ax), (1, vi ay), (2, vi bx), (3, vi by'), (4, vi cx), (5, vi cy), (6, vi dx), (7, vi dy), (8, vi (-(((bx - ax) * (dy - cy)) - ((by' - ay) * (dx - cx))))), (9, vi (-(((cx - ax) * (dy - cy)) - ((cy - ay) * (dx - cx))))), (10, vi (-(((cx - ax) * (by' - ay)) - ((cy - ay) * (bx - ax)))))]) (st2 := [vi 0]) kX9_meet_142 rfl ?_
                    exact q_rz rfl eX9_meet_143 (by decide) ⟨0, rfl, Or.inr ⟨rfl, fun q9 => by first | (have := (hP (by omega)).mp q9; omega) | (have := (hN (by omega)).mp q9; omega) | exact hZ (by omega) (by omega) q9⟩, rfl⟩
                  · skip
                    refine q_blk (lv2 := [(0, vi ax), (1, vi ay), (2, vi bx), (3, vi by'), (4, vi cx), (5, vi cy), (6, vi dx), (7, vi dy), (8, vi (-(((bx - ax) * (dy - cy)) - ((by' - ay) * (dx - cx))))), (9, vi (-(((cx - ax) * (dy - cy)) - ((cy - ay) * (dx - cx))))), (10, vi (-(((cx - ax) * (by' - ay)) - ((cy - ay) * (bx - ax)))))]) (st2 := [vi (-(((bx - ax) * (dy - cy)) - ((by' - ay) * (dx - cx)))), vi (-(((cx - ax) * (by' - ay)) - ((cy - ay) * (bx - ax))))]) kX9_meet_131 rfl ?_
                    refine AQ.ic_eq (tgt := 142) eX9_meet_135 (by decide) (by first | assumption | exact ⟨by omega, by omega⟩) (by first | assumption | exact ⟨by omega, by omega⟩) (fun br43 => ?_) (fun br43 => ?_)
                    · skip
                      refine q_blk (lv2 := [(0, vi ax), (1, vi ay), (2, vi bx), (3, vi by'), (4, vi cx), (5, vi cy), (6, vi dx), (7, vi dy), (8, vi (-(((bx - ax) * (dy - cy)) - ((by' - ay) * (dx - cx))))), (9, vi (-(((cx - ax) * (dy - cy)) - ((cy - ay) * (dx - cx))))), (10, vi (-(((cx - ax) * (by' - ay)) - ((cy - ay) * (bx - ax)))))]) (st2 := [vi 0]) kX9_meet_142 rfl ?_
                      exact q_rz rfl eX9_meet_143 (by decide) ⟨0, rfl, Or.inr ⟨rfl, fun q9 => by first | (have := (hP (by omega)).mp q9; omega) | (have := (hN (by omega)).mp q9; omega) | exact hZ (by omega) (by omega) q9⟩, rfl⟩
                    · skip
                      refine q_blk (lv2 := [(0, vi ax), (1, vi ay), (2, vi bx), (3, vi by'), (4, vi cx), (5, vi cy), (6, vi dx), (7, vi dy), (8, vi (-(((bx - ax) * (dy - cy)) - ((by' - ay) * (dx - cx))))), (9, vi (-(((cx - ax) * (dy - cy)) - ((cy - ay) * (dx - cx))))), (10, vi (-(((cx - ax) * (by' - ay)) - ((cy - ay) * (bx - ax)))))]) (st2 := [vi 1]) kX9_meet_138 rfl ?_
                      refine q_goto (tgt := 143) eX9_meet_139 (by decide) ?_
                      exact q_rz rfl eX9_meet_143 (by decide) ⟨1, rfl, Or.inl ⟨rfl, by first | exact (hP (by omega)).mpr (by omega) | exact (hN (by omega)).mpr (by omega)⟩, rfl⟩
            · skip
              refine q_blk (lv2 := [(0, vi ax), (1, vi ay), (2, vi bx), (3, vi by'), (4, vi cx), (5, vi cy), (6, vi dx), (7, vi dy), (8, vi (-(((bx - ax) * (dy - cy)) - ((by' - ay) * (dx - cx))))), (9, vi (-(((cx - ax) * (dy - cy)) - ((cy - ay) * (dx - cx))))), (10, vi (-(((cx - ax) * (by' - ay)) - ((cy - ay) * (bx - ax)))))]) (st2 := [vi 0]) kX9_meet_112 rfl ?_
              exact q_rz rfl eX9_meet_113 (by decide) ⟨0, rfl, Or.inr ⟨rfl, fun q9 => by first | (have := (hP (by omega)).mp q9; omega) | (have := (hN (by omega)).mp q9; omega) | exact hZ (by omega) (by omega) q9⟩, rfl⟩

set_option maxRecDepth 4000 in
set_option maxHeartbeats 4000000 in
theorem c_X9_line {w : am_w} {h : AH} {B : Nat → Prop} {f sa pa : Nat} {gs gp : Int → Option Nat} {T : Option Nat} {D : Int → Int} (hF : FLD h B f sa pa gs gp T D) (hD : VD D) (hX : DX D) {ax ay bx by' lp l1 l2 lc : Int} (h1 : am_c ax) (h2 : am_c ay) (h3 : am_c bx) (h4 : am_c by') (hb : bx ≠ ax ∨ by' ≠ ay) (rl : am_r lp ∧ am_r l1 ∧ am_r l2 ∧ am_r lc) (hl : lc < 0 ∨ (0 ≤ lp ∧ lp < D 3 ∧ lc < pN D lp)) (s1 : ¬ gm_stn D ax ay) (s2 : ¬ gm_stn D bx by')  : AE w m_X9_line 64 [vr f, vi ax, vi ay, vi bx, vi by', vi lp, vi l1, vi l2, vi lc] h (am_intp h (fun z => gm_lr D lp lc l1 l2 ax ay bx by' z)) := by
  refine AE.of wf_X9_line (Nat.le_of_ble_eq_true rfl) (am_ok_ip) ?_
  obtain ⟨⟨bf, bs, bp⟩, C0, ⟨fz1, C1⟩, ⟨fz2, C2⟩, hst, hsh, hij⟩ := id hF
  have d0 := hD.1
  have d1 := hD.2.1
  have d2 := hD.2.2.1
  have d3 := hD.2.2.2.1
  have e1 := h1.1
  have e1' := h1.2
  have e2 := h2.1
  have e2' := h2.2
  have e3 := h3.1
  have e3' := h3.2
  have e4 := h4.1
  have e4' := h4.2
  obtain ⟨⟨r1, r1'⟩, ⟨r2, r2'⟩, ⟨r3, r3'⟩, ⟨r4, r4'⟩⟩ := rl
  have gr := gm_gc_r h1 h2 h3 h4
  have gd := (gm_gd hb).1
  refine q_blk (lv2 := [(0, vr f), (1, vi ax), (2, vi ay), (3, vi bx), (4, vi by'), (5, vi lp), (6, vi l1), (7, vi l2), (8, vi lc)]) (st2 := [vi (by' - ay), vi (bx - ax)]) kX9_line_0 rfl ?_
  refine q_SNi (av := [vi (bx - ax), vi (by' - ay)]) (st := []) (c_L_common (a := (bx - ax)) (b := (by' - ay)) ⟨by omega, by omega⟩ ⟨by omega, by omega⟩) lk_RX9_51 (by decide) rfl rfl (Nat.le_of_ble_eq_true rfl) eX9_line_7 (fun z1 e2 => ?_)
  obtain rfl : z1 = gm_gc ax ay bx by' := e2
  refine q_blk (lv2 := [(0, vr f), (1, vi ax), (2, vi ay), (3, vi bx), (4, vi by'), (5, vi lp), (6, vi l1), (7, vi l2), (8, vi lc), (9, vi (gm_gc ax ay bx by')), (10, vi 1)]) (st2 := []) kX9_line_10 rfl ?_
  refine am_lp1 (I := fun (n : Int) => (1 ≤ n ∧ (n ≤ gm_gc ax ay bx by' ∨ n = 1)) ∧ ∀ m, 0 < m → m < n → ¬ gm_lk D lp lc (gm_sx ax ay bx by' m) (gm_sy ax ay bx by' m)) (μ := fun (n : Int) => (gm_gc ax ay bx by' + 1 - n).toNat) (G := fun (n : Int) => AQ w m_X9_line 64 15 [(0, vr f), (1, vi ax), (2, vi ay), (3, vi bx), (4, vi by'), (5, vi lp), (6, vi l1), (7, vi l2), (8, vi lc), (9, vi (gm_gc ax ay bx by')), (10, vi n)] [] h (am_intp h (fun z => gm_lr D lp lc l1 l2 ax ay bx by' z))) ?_ 1 (⟨⟨by omega, by omega⟩, fun m m0 m1 => by omega⟩)
  intro n hI4 ih3
  obtain ⟨⟨n0, n1⟩, hn⟩ := hI4
  refine q_blk (lv2 := [(0, vr f), (1, vi ax), (2, vi ay), (3, vi bx), (4, vi by'), (5, vi lp), (6, vi l1), (7, vi l2), (8, vi lc), (9, vi (gm_gc ax ay bx by')), (10, vi n)]) (st2 := [vi (gm_gc ax ay bx by'), vi n]) kX9_line_15 rfl ?_
  refine AQ.ic_ge (tgt := 110) eX9_line_19 (by decide) (by first | assumption | exact ⟨by omega, by omega⟩) (by first | assumption | exact ⟨by omega, by omega⟩) (fun br5 => ?_) (fun br5 => ?_)
  · skip
    have N4 : ¬ (gm_bs D ax ay bx by' ∨ gm_bc D lp lc ax ay bx by') := fun q9 => by
        obtain ⟨m, hm, w9⟩ := (gm_line4 hX hb hl s1 s2).mpr q9
        exact hn m hm.1 (by omega) w9
    refine q_blk (lv2 := [(0, vr f), (1, vi ax), (2, vi ay), (3, vi bx), (4, vi by'), (5, vi lp), (6, vi l1), (7, vi l2), (8, vi lc), (9, vi (gm_gc ax ay bx by')), (10, vi 0)]) (st2 := []) kX9_line_110 rfl ?_
    refine am_lp1 (I := fun (p : Int) => (0 ≤ p ∧ p ≤ D 3) ∧ ∀ q, 0 ≤ q → q < p → ¬ gm_ck D lp l1 l2 ax ay bx by' q) (μ := fun (p : Int) => (D 3 - p).toNat) (G := fun (p : Int) => AQ w m_X9_line 64 113 [(0, vr f), (1, vi ax), (2, vi ay), (3, vi bx), (4, vi by'), (5, vi lp), (6, vi l1), (7, vi l2), (8, vi lc), (9, vi (gm_gc ax ay bx by')), (10, vi p)] [] h (am_intp h (fun z => gm_lr D lp lc l1 l2 ax ay bx by' z))) ?_ 0 (⟨⟨by omega, by omega⟩, fun q q0 q1 => by omega⟩)
    intro p hI7 ih6
    obtain ⟨⟨p0, p1⟩, hp⟩ := hI7
    refine q_blk (lv2 := [(0, vr f), (1, vi ax), (2, vi ay), (3, vi bx), (4, vi by'), (5, vi lp), (6, vi l1), (7, vi l2), (8, vi lc), (9, vi (gm_gc ax ay bx by')), (10, vi p)]) (st2 := [vr f, vi p]) kX9_line_113 rfl ?_
    refine q_gr eX9_line_116 fl_RX9_24 (Or.inr ⟨_, rfl⟩) C0 rfl ?_
    refine q_al eX9_line_119 C2 (by decide) ?_
    refine AQ.ic_ge (tgt := 226) eX9_line_120 (by decide) (by first | assumption | exact ⟨by omega, by omega⟩) (by first | assumption | exact ⟨by omega, by omega⟩) (fun br8 => ?_) (fun br8 => ?_)
    · skip
      refine q_blk (lv2 := [(0, vr f), (1, vi ax), (2, vi ay), (3, vi bx), (4, vi by'), (5, vi lp), (6, vi l1), (7, vi l2), (8, vi lc), (9, vi (gm_gc ax ay bx by')), (10, vi p)]) (st2 := [vi 0]) kX9_line_226 rfl ?_
      exact q_ri rfl eX9_line_227 ⟨0, rfl, Or.inr ⟨N4, Or.inr ⟨fun ⟨q, q0, q1, w9⟩ => hp q q0 (by omega) w9, rfl⟩⟩, rfl⟩
    · skip
      refine q_blk (lv2 := [(0, vr f), (1, vi ax), (2, vi ay), (3, vi bx), (4, vi by'), (5, vi lp), (6, vi l1), (7, vi l2), (8, vi lc), (9, vi (gm_gc ax ay bx by')), (10, vi p)]) (st2 := [vr f]) kX9_line_123 rfl ?_
      refine q_gr eX9_line_124 fl_RX9_24 (Or.inr ⟨_, rfl⟩) C0 rfl ?_
      refine q_blk (lv2 := [(0, vr f), (1, vi ax), (2, vi ay), (3, vi bx), (4, vi by'), (5, vi lp), (6, vi l1), (7, vi l2), (8, vi lc), (9, vi (gm_gc ax ay bx by')), (10, vi p)]) (st2 := [vi p, vr pa]) kX9_line_127 rfl ?_
      obtain ⟨q9, g9, l9⟩ := hsh p (by omega) (by omega)
      obtain ⟨ca9, cf9, ⟨w9, u9⟩, c9, d9, e9⟩ := id l9
      obtain ⟨⟨o9, o9'⟩, ⟨n9, n9'⟩, cc9, xy9⟩ := hD.2.2.2.2.2 p (by omega) (by omega)
      have vc9 := hD.vc (p := p) (by omega) (by omega)
      have ar9 := gm_ar_r vc9 (by omega) n9'
      refine q_aa eX9_line_129 C2 (by decide) (by omega) (by omega) g9 ?_
      refine q_blk (lv2 := [(0, vr f), (1, vi ax), (2, vi ay), (3, vi bx), (4, vi by'), (5, vi lp), (6, vi l1), (7, vi l2), (8, vi lc), (9, vi (gm_gc ax ay bx by')), (10, vi p), (11, vr q9), (12, vi 0)]) (st2 := []) kX9_line_130 rfl ?_
      refine am_lp1 (I := fun (k : Int) => (0 ≤ k ∧ k ≤ gm_ns (pN D p) (pC D p)) ∧ ∀ j, 0 ≤ j → j < k → ¬ (p = lp ∧ (j = l1 ∨ j = l2)) → ¬ gm_mt ax ay bx by' (pX D p j) (pY D p j) (pX D p (gm_nx (pN D p) j)) (pY D p (gm_nx (pN D p) j))) (μ := fun (k : Int) => (gm_ns (pN D p) (pC D p) - k).toNat) (G := fun (k : Int) => AQ w m_X9_line 64 135 [(0, vr f), (1, vi ax), (2, vi ay), (3, vi bx), (4, vi by'), (5, vi lp), (6, vi l1), (7, vi l2), (8, vi lc), (9, vi (gm_gc ax ay bx by')), (10, vi p), (11, vr q9), (12, vi k)] [] h (am_intp h (fun z => gm_lr D lp lc l1 l2 ax ay bx by' z))) ?_ 0 (⟨⟨by omega, by unfold gm_ns; split <;> omega⟩, fun j j0 j1 => by omega⟩)
      intro k hI11 ih10
      obtain ⟨⟨k0, k1⟩, hk⟩ := hI11
      have nsr : gm_ns (pN D p) (pC D p) ≤ 12 ∧ 0 ≤ gm_ns (pN D p) (pC D p) := by unfold gm_ns; split <;> omega
      refine q_blk (lv2 := [(0, vr f), (1, vi ax), (2, vi ay), (3, vi bx), (4, vi by'), (5, vi lp), (6, vi l1), (7, vi l2), (8, vi lc), (9, vi (gm_gc ax ay bx by')), (10, vi p), (11, vr q9), (12, vi k)]) (st2 := [vr q9, vi k]) kX9_line_135 rfl ?_
      refine q_Vi (av := []) (st := [vi k]) (c_X12_sides l9 vc9 n9 n9' (by omega)) lk_RX9_40 (by decide) rfl rfl l9.ob ⟨_, rfl, rfl⟩ (Nat.le_of_ble_eq_true rfl) eX9_line_139 (fun z12 e13 => ?_)
      subst e13
      refine AQ.ic_ge (tgt := 220) eX9_line_142 (by decide) (by first | assumption | exact ⟨by omega, by omega⟩) (by first | assumption | exact ⟨by omega, by omega⟩) (fun br14 => ?_) (fun br14 => ?_)
      · skip
        refine q_blk (lv2 := [(0, vr f), (1, vi ax), (2, vi ay), (3, vi bx), (4, vi by'), (5, vi lp), (6, vi l1), (7, vi l2), (8, vi lc), (9, vi (gm_gc ax ay bx by')), (10, vi (p + 1)), (11, vr q9), (12, vi k)]) (st2 := []) kX9_line_220 rfl ?_
        refine q_goto (tgt := 113) eX9_line_223 (by decide) ?_
        refine q_sub (lv2 := [(0, vr f), (1, vi ax), (2, vi ay), (3, vi bx), (4, vi by'), (5, vi lp), (6, vi l1), (7, vi l2), (8, vi lc), (9, vi (gm_gc ax ay bx by')), (10, vi (p + 1))]) [0, 1, 2, 3, 4, 5, 6, 7, 8, 9, 10] rfl ?_
        exact ih6 (p + 1) (⟨⟨by omega, by omega⟩, fun q q0 q1 => by
            by_cases e9 : q = p
            · subst e9
              exact fun ⟨j, j0, j1, w8, w9⟩ => hk j j0 (by omega) w8 w9
            · exact hp q q0 (by omega)⟩) (by omega)
      · skip
        have br_ns : k < gm_ns (pN D p) (pC D p) := by omega
        have kn : k < pN D p := by have := br_ns; unfold gm_ns at this; split at this <;> omega
        have nr := gm_nx_r k0 kn
        have xk := xy9 k k0 kn
        have xn := xy9 _ nr.1 nr.2
        have hne := gm_side_ne hD hX.ve p0 (show p < D 3 by omega) k0 br_ns
        have jn214 : (¬ (p = lp ∧ (k = l1 ∨ k = l2)) → ¬ gm_mt ax ay bx by' (pX D p k) (pY D p k) (pX D p (gm_nx (pN D p) k)) (pY D p (gm_nx (pN D p) k))) → AQ w m_X9_line 64 214 [(0, vr f), (1, vi ax), (2, vi ay), (3, vi bx), (4, vi by'), (5, vi lp), (6, vi l1), (7, vi l2), (8, vi lc), (9, vi (gm_gc ax ay bx by')), (10, vi p), (11, vr q9), (12, vi k)] [] h (am_intp h (fun z => gm_lr D lp lc l1 l2 ax ay bx by' z)) := by
          intro  hj14
          refine q_blk (lv2 := [(0, vr f), (1, vi ax), (2, vi ay), (3, vi bx), (4, vi by'), (5, vi lp), (6, vi l1), (7, vi l2), (8, vi lc), (9, vi (gm_gc ax ay bx by')), (10, vi p), (11, vr q9), (12, vi (k + 1))]) (st2 := []) kX9_line_214 rfl ?_
          refine q_goto (tgt := 135) eX9_line_217 (by decide) ?_
          exact ih10 (k + 1) (⟨⟨by omega, by omega⟩, fun j j0 j1 w8 => by
              by_cases e9 : j = k
              · subst e9
                exact hj14 w8
              · exact hk j j0 (by omega) w8⟩) (by omega)
        have jn169 : ¬ (p = lp ∧ (k = l1 ∨ k = l2)) → AQ w m_X9_line 64 169 [(0, vr f), (1, vi ax), (2, vi ay), (3, vi bx), (4, vi by'), (5, vi lp), (6, vi l1), (7, vi l2), (8, vi lc), (9, vi (gm_gc ax ay bx by')), (10, vi p), (11, vr q9), (12, vi k)] [] h (am_intp h (fun z => gm_lr D lp lc l1 l2 ax ay bx by' z)) := by
          intro  hnl
          refine q_blk (lv2 := [(0, vr f), (1, vi ax), (2, vi ay), (3, vi bx), (4, vi by'), (5, vi lp), (6, vi l1), (7, vi l2), (8, vi lc), (9, vi (gm_gc ax ay bx by')), (10, vi p), (11, vr q9), (12, vi k)]) (st2 := [vi k, vr q9, vi by', vi bx, vi ay, vi ax]) kX9_line_169 rfl ?_
          refine q_Vi (av := [vi k]) (st := [vi by', vi bx, vi ay, vi ax]) (c_X12_x0 l9 vc9 n9 n9' (k := k) (by omega) (by omega)) lk_RX9_44 (by decide) rfl rfl l9.ob ⟨_, rfl, rfl⟩ (Nat.le_of_ble_eq_true rfl) eX9_line_178 (fun z15 e16 => ?_)
          subst e16
          refine q_blk (lv2 := [(0, vr f), (1, vi ax), (2, vi ay), (3, vi bx), (4, vi by'), (5, vi lp), (6, vi l1), (7, vi l2), (8, vi lc), (9, vi (gm_gc ax ay bx by')), (10, vi p), (11, vr q9), (12, vi k)]) (st2 := [vi k, vr q9, vi ((pX D p) k), vi by', vi bx, vi ay, vi ax]) kX9_line_181 rfl ?_
          refine q_Vi (av := [vi k]) (st := [vi ((pX D p) k), vi by', vi bx, vi ay, vi ax]) (c_X12_y0 l9 vc9 n9 n9' (k := k) (by omega) (by omega)) lk_RX9_48 (by decide) rfl rfl l9.ob ⟨_, rfl, rfl⟩ (Nat.le_of_ble_eq_true rfl) eX9_line_185 (fun z17 e18 => ?_)
          subst e18
          refine q_blk (lv2 := [(0, vr f), (1, vi ax), (2, vi ay), (3, vi bx), (4, vi by'), (5, vi lp), (6, vi l1), (7, vi l2), (8, vi lc), (9, vi (gm_gc ax ay bx by')), (10, vi p), (11, vr q9), (12, vi k)]) (st2 := [vi (k + 1), vr q9, vi ((pY D p) k), vi ((pX D p) k), vi by', vi bx, vi ay, vi ax]) kX9_line_188 rfl ?_
          refine q_Vi (av := [vi (k + 1)]) (st := [vi ((pY D p) k), vi ((pX D p) k), vi by', vi bx, vi ay, vi ax]) (c_X12_x1 l9 vc9 n9 n9' (k := k) (by omega) (by omega)) lk_RX9_44 (by decide) rfl rfl l9.ob ⟨_, rfl, rfl⟩ (Nat.le_of_ble_eq_true rfl) eX9_line_194 (fun z19 e20 => ?_)
          subst e20
          refine q_blk (lv2 := [(0, vr f), (1, vi ax), (2, vi ay), (3, vi bx), (4, vi by'), (5, vi lp), (6, vi l1), (7, vi l2), (8, vi lc), (9, vi (gm_gc ax ay bx by')), (10, vi p), (11, vr q9), (12, vi k)]) (st2 := [vi (k + 1), vr q9, vi ((pX D p) (gm_nx (pN D p) k)), vi ((pY D p) k), vi ((pX D p) k), vi by', vi bx, vi ay, vi ax]) kX9_line_197 rfl ?_
          refine q_Vi (av := [vi (k + 1)]) (st := [vi ((pX D p) (gm_nx (pN D p) k)), vi ((pY D p) k), vi ((pX D p) k), vi by', vi bx, vi ay, vi ax]) (c_X12_y1 l9 vc9 n9 n9' (k := k) (by omega) (by omega)) lk_RX9_48 (by decide) rfl rfl l9.ob ⟨_, rfl, rfl⟩ (Nat.le_of_ble_eq_true rfl) eX9_line_203 (fun z21 e22 => ?_)
          subst e22
          refine q_Si (av := [vi ax, vi ay, vi bx, vi by', vi ((pX D p) k), vi ((pY D p) k), vi ((pX D p) (gm_nx (pN D p) k)), vi ((pY D p) (gm_nx (pN D p) k))]) (st := []) (c_X9_meet h1 h2 h3 h4 (by unfold am_c; omega) (by unfold am_c; omega) (by unfold am_c; omega) (by unfold am_c; omega) hb hne) lk_RX9_72 (by decide) rfl rfl (Nat.le_of_ble_eq_true rfl) eX9_line_206 (fun z23 e24 => ?_)
          rcases e24 with ⟨rfl, e24⟩ | ⟨rfl, e24⟩
          · skip
            refine AQ.of (AS.if_eq_f eX9_line_209 ⟨by decide, by decide⟩ (by decide) (by decide)) ?_
            refine q_blk (lv2 := [(0, vr f), (1, vi ax), (2, vi ay), (3, vi bx), (4, vi by'), (5, vi lp), (6, vi l1), (7, vi l2), (8, vi lc), (9, vi (gm_gc ax ay bx by')), (10, vi p), (11, vr q9), (12, vi k)]) (st2 := [vi 5]) kX9_line_212 rfl ?_
            exact q_ri rfl eX9_line_213 ⟨5, rfl, Or.inr ⟨N4, Or.inl ⟨⟨p, p0, by omega, k, k0, by omega, hnl, e24⟩, rfl⟩⟩, rfl⟩
          · skip
            refine AQ.of (AS.if_eq_t (tgt := 214) eX9_line_209 (by decide) ⟨by decide, by decide⟩ (by decide)) ?_
            exact jn214 (fun _ => e24)
        refine q_blk (lv2 := [(0, vr f), (1, vi ax), (2, vi ay), (3, vi bx), (4, vi by'), (5, vi lp), (6, vi l1), (7, vi l2), (8, vi lc), (9, vi (gm_gc ax ay bx by')), (10, vi p), (11, vr q9), (12, vi k)]) (st2 := [vi lp, vi p]) kX9_line_145 rfl ?_
        refine AQ.ic_ne (tgt := 169) eX9_line_149 (by decide) (by first | assumption | exact ⟨by omega, by omega⟩) (by first | assumption | exact ⟨by omega, by omega⟩) (fun br25 => ?_) (fun br25 => ?_)
        · skip
          exact jn169 (by omega)
        · skip
          refine q_blk (lv2 := [(0, vr f), (1, vi ax), (2, vi ay), (3, vi bx), (4, vi by'), (5, vi lp), (6, vi l1), (7, vi l2), (8, vi lc), (9, vi (gm_gc ax ay bx by')), (10, vi p), (11, vr q9), (12, vi k)]) (st2 := [vi l1, vi k]) kX9_line_152 rfl ?_
          refine AQ.ic_eq (tgt := 214) eX9_line_156 (by decide) (by first | assumption | exact ⟨by omega, by omega⟩) (by first | assumption | exact ⟨by omega, by omega⟩) (fun br26 => ?_) (fun br26 => ?_)
          · skip
            exact jn214 (fun q9 => absurd (by omega) q9)
          · skip
            refine q_blk (lv2 := [(0, vr f), (1, vi ax), (2, vi ay), (3, vi bx), (4, vi by'), (5, vi lp), (6, vi l1), (7, vi l2), (8, vi lc), (9, vi (gm_gc ax ay bx by')), (10, vi p), (11, vr q9), (12, vi k)]) (st2 := [vi l2, vi k]) kX9_line_159 rfl ?_
            refine AQ.ic_ne (tgt := 169) eX9_line_163 (by decide) (by first | assumption | exact ⟨by omega, by omega⟩) (by first | assumption | exact ⟨by omega, by omega⟩) (fun br27 => ?_) (fun br27 => ?_)
            · skip
              exact jn169 (by omega)
            · skip
              refine q_goto (tgt := 214) eX9_line_166 (by decide) ?_
              exact jn214 (fun q9 => absurd (by omega) q9)
  · skip
    refine q_blk (lv2 := [(0, vr f), (1, vi ax), (2, vi ay), (3, vi bx), (4, vi by'), (5, vi lp), (6, vi l1), (7, vi l2), (8, vi lc), (9, vi (gm_gc ax ay bx by')), (10, vi n)]) (st2 := [vi (gm_gc ax ay bx by'), vi (bx - ax), vi ax]) kX9_line_22 rfl ?_
    refine AQ.of (AS.idiv eX9_line_28 (by first | assumption | exact ⟨by omega, by omega⟩) (by first | assumption | exact ⟨by omega, by omega⟩) (by omega)) ?_
    refine q_blk (lv2 := [(0, vr f), (1, vi ax), (2, vi ay), (3, vi bx), (4, vi by'), (5, vi lp), (6, vi l1), (7, vi l2), (8, vi lc), (9, vi (gm_gc ax ay bx by')), (10, vi n), (11, vi (ax + ((Int.tdiv (bx - ax) (gm_gc ax ay bx by')) * n)))]) (st2 := [vi (gm_gc ax ay bx by'), vi (by' - ay), vi ay]) kX9_line_29 rfl ?_
    refine AQ.of (AS.idiv eX9_line_42 (by first | assumption | exact ⟨by omega, by omega⟩) (by first | assumption | exact ⟨by omega, by omega⟩) (by omega)) ?_
    have hw := gm_on_c h1 h2 h3 h4 ((gm_lat_wi hb).mpr ⟨n, ⟨by omega, by omega⟩, rfl, rfl⟩).1
    have hw2 := hw
    unfold am_c gm_sx gm_sy at hw2
    have jn104 : ¬ gm_lk D lp lc (gm_sx ax ay bx by' n) (gm_sy ax ay bx by' n) → AQ w m_X9_line 64 104 [(0, vr f), (1, vi ax), (2, vi ay), (3, vi bx), (4, vi by'), (5, vi lp), (6, vi l1), (7, vi l2), (8, vi lc), (9, vi (gm_gc ax ay bx by')), (10, vi n)] [] h (am_intp h (fun z => gm_lr D lp lc l1 l2 ax ay bx by' z)) := by
      intro  NB
      refine q_blk (lv2 := [(0, vr f), (1, vi ax), (2, vi ay), (3, vi bx), (4, vi by'), (5, vi lp), (6, vi l1), (7, vi l2), (8, vi lc), (9, vi (gm_gc ax ay bx by')), (10, vi (n + 1))]) (st2 := []) kX9_line_104 rfl ?_
      refine q_goto (tgt := 15) eX9_line_107 (by decide) ?_
      exact ih3 (n + 1) (⟨⟨by omega, by omega⟩, fun m m0 m1 => by
            by_cases e9 : m = n
            · subst e9
              exact NB
            · exact hn m m0 (by omega)⟩) (by omega)
    refine q_blk (lv2 := [(0, vr f), (1, vi ax), (2, vi ay), (3, vi bx), (4, vi by'), (5, vi lp), (6, vi l1), (7, vi l2), (8, vi lc), (9, vi (gm_gc ax ay bx by')), (10, vi n), (11, vi (ax + ((Int.tdiv (bx - ax) (gm_gc ax ay bx by')) * n))), (12, vi (ay + ((Int.tdiv (by' - ay) (gm_gc ax ay bx by')) * n)))]) (st2 := [vi (ay + ((Int.tdiv (by' - ay) (gm_gc ax ay bx by')) * n)), vi (ax + ((Int.tdiv (bx - ax) (gm_gc ax ay bx by')) * n)), vr f]) kX9_line_43 rfl ?_
    refine q_Vi (av := [vi (ax + ((Int.tdiv (bx - ax) (gm_gc ax ay bx by')) * n)), vi (ay + ((Int.tdiv (by' - ay) (gm_gc ax ay bx by')) * n))]) (st := []) (c_X9_isStone hF hD hw.1 hw.2) lk_RX9_65 (by decide) rfl rfl hF.ob ⟨_, rfl, rfl⟩ (Nat.le_of_ble_eq_true rfl) eX9_line_54 (fun z28 e29 => ?_)
    rcases e29 with ⟨rfl, e29⟩ | ⟨rfl, e29⟩
    · skip
      refine AQ.of (AS.if_eq_f eX9_line_57 ⟨by decide, by decide⟩ (by decide) (by decide)) ?_
      refine q_blk (lv2 := [(0, vr f), (1, vi ax), (2, vi ay), (3, vi bx), (4, vi by'), (5, vi lp), (6, vi l1), (7, vi l2), (8, vi lc), (9, vi (gm_gc ax ay bx by')), (10, vi n), (11, vi (ax + ((Int.tdiv (bx - ax) (gm_gc ax ay bx by')) * n))), (12, vi (ay + ((Int.tdiv (by' - ay) (gm_gc ax ay bx by')) * n)))]) (st2 := [vi 4]) kX9_line_60 rfl ?_
      exact q_ri rfl eX9_line_61 ⟨4, rfl, Or.inl ⟨(gm_line4 hX hb hl s1 s2).mp ⟨n, ⟨by omega, by omega⟩, Or.inl e29⟩, rfl⟩, rfl⟩
    · skip
      refine AQ.of (AS.if_eq_t (tgt := 62) eX9_line_57 (by decide) ⟨by decide, by decide⟩ (by decide)) ?_
      refine q_blk (lv2 := [(0, vr f), (1, vi ax), (2, vi ay), (3, vi bx), (4, vi by'), (5, vi lp), (6, vi l1), (7, vi l2), (8, vi lc), (9, vi (gm_gc ax ay bx by')), (10, vi n), (11, vi (ax + ((Int.tdiv (bx - ax) (gm_gc ax ay bx by')) * n))), (12, vi (ay + ((Int.tdiv (by' - ay) (gm_gc ax ay bx by')) * n)))]) (st2 := [vi (ay + ((Int.tdiv (by' - ay) (gm_gc ax ay bx by')) * n)), vi (ax + ((Int.tdiv (bx - ax) (gm_gc ax ay bx by')) * n)), vr f]) kX9_line_62 rfl ?_
      refine q_Vi (av := [vi (ax + ((Int.tdiv (bx - ax) (gm_gc ax ay bx by')) * n)), vi (ay + ((Int.tdiv (by' - ay) (gm_gc ax ay bx by')) * n))]) (st := []) (c_X9_isCorner hF hD hw.1 hw.2) lk_RX9_69 (by decide) rfl rfl hF.ob ⟨_, rfl, rfl⟩ (Nat.le_of_ble_eq_true rfl) eX9_line_67 (fun z30 e31 => ?_)
      rcases e31 with ⟨rfl, e31⟩ | ⟨rfl, e31⟩
      · skip
        refine AQ.of (AS.if_eq_f eX9_line_70 ⟨by decide, by decide⟩ (by decide) (by decide)) ?_
        refine q_blk (lv2 := [(0, vr f), (1, vi ax), (2, vi ay), (3, vi bx), (4, vi by'), (5, vi lp), (6, vi l1), (7, vi l2), (8, vi lc), (9, vi (gm_gc ax ay bx by')), (10, vi n), (11, vi (ax + ((Int.tdiv (bx - ax) (gm_gc ax ay bx by')) * n))), (12, vi (ay + ((Int.tdiv (by' - ay) (gm_gc ax ay bx by')) * n)))]) (st2 := [vi lc]) kX9_line_73 rfl ?_
        refine AQ.if_lt (tgt := 102) eX9_line_75 (by decide) (by first | assumption | exact ⟨by omega, by omega⟩) (fun br32 => ?_) (fun br32 => ?_)
        · skip
          refine q_blk (lv2 := [(0, vr f), (1, vi ax), (2, vi ay), (3, vi bx), (4, vi by'), (5, vi lp), (6, vi l1), (7, vi l2), (8, vi lc), (9, vi (gm_gc ax ay bx by')), (10, vi n), (11, vi (ax + ((Int.tdiv (bx - ax) (gm_gc ax ay bx by')) * n))), (12, vi (ay + ((Int.tdiv (by' - ay) (gm_gc ax ay bx by')) * n)))]) (st2 := [vi 4]) kX9_line_102 rfl ?_
          exact q_ri rfl eX9_line_103 ⟨4, rfl, Or.inl ⟨(gm_line4 hX hb hl s1 s2).mp ⟨n, ⟨by omega, by omega⟩, Or.inr ⟨e31, fun q9 => by unfold gm_sx gm_sy at q9; omega⟩⟩, rfl⟩, rfl⟩
        · skip
          refine q_blk (lv2 := [(0, vr f), (1, vi ax), (2, vi ay), (3, vi bx), (4, vi by'), (5, vi lp), (6, vi l1), (7, vi l2), (8, vi lc), (9, vi (gm_gc ax ay bx by')), (10, vi n), (11, vi (ax + ((Int.tdiv (bx - ax) (gm_gc ax ay bx by')) * n))), (12, vi (ay + ((Int.tdiv (by' - ay) (gm_gc ax ay bx by')) * n)))]) (st2 := [vr f]) kX9_line_78 rfl ?_
          refine q_gr eX9_line_79 fl_RX9_24 (Or.inr ⟨_, rfl⟩) C0 rfl ?_
          refine q_blk (lv2 := [(0, vr f), (1, vi ax), (2, vi ay), (3, vi bx), (4, vi by'), (5, vi lp), (6, vi l1), (7, vi l2), (8, vi lc), (9, vi (gm_gc ax ay bx by')), (10, vi n), (11, vi (ax + ((Int.tdiv (bx - ax) (gm_gc ax ay bx by')) * n))), (12, vi (ay + ((Int.tdiv (by' - ay) (gm_gc ax ay bx by')) * n)))]) (st2 := [vi lp, vr pa]) kX9_line_82 rfl ?_
          obtain ⟨q33, g33, l33⟩ := hsh lp (by omega) (by omega)
          obtain ⟨ca33, cf33, ⟨w33, u33⟩, c33, d33, e33⟩ := id l33
          obtain ⟨⟨o33, o33'⟩, ⟨n33, n33'⟩, cc33, xy33⟩ := hD.2.2.2.2.2 lp (by omega) (by omega)
          have vc33 := hD.vc (p := lp) (by omega) (by omega)
          have ar33 := gm_ar_r vc33 (by omega) n33'
          refine q_aa eX9_line_84 C2 (by decide) (by omega) (by omega) g33 ?_
          have xl := xy33 lc (by omega) (by omega)
          refine q_gr eX9_line_85 fl_RX9_37 (Or.inr ⟨_, rfl⟩) c33 rfl ?_
          refine q_blk (lv2 := [(0, vr f), (1, vi ax), (2, vi ay), (3, vi bx), (4, vi by'), (5, vi lp), (6, vi l1), (7, vi l2), (8, vi lc), (9, vi (gm_gc ax ay bx by')), (10, vi n), (11, vi (ax + ((Int.tdiv (bx - ax) (gm_gc ax ay bx by')) * n))), (12, vi (ay + ((Int.tdiv (by' - ay) (gm_gc ax ay bx by')) * n)))]) (st2 := [vi lc, vr ca33]) kX9_line_88 rfl ?_
          refine q_ia eX9_line_90 d33 (by decide) (by omega) (by omega) (z := (100 * pX D lp lc + pY D lp lc)) (e33 _ (by omega) (by omega)) ?_
          refine q_blk (lv2 := [(0, vr f), (1, vi ax), (2, vi ay), (3, vi bx), (4, vi by'), (5, vi lp), (6, vi l1), (7, vi l2), (8, vi lc), (9, vi (gm_gc ax ay bx by')), (10, vi n), (11, vi (ax + ((Int.tdiv (bx - ax) (gm_gc ax ay bx by')) * n))), (12, vi (ay + ((Int.tdiv (by' - ay) (gm_gc ax ay bx by')) * n)))]) (st2 := [vi ((100 * (ax + ((Int.tdiv (bx - ax) (gm_gc ax ay bx by')) * n))) + (ay + ((Int.tdiv (by' - ay) (gm_gc ax ay bx by')) * n))), vi (100 * pX D lp lc + pY D lp lc)]) kX9_line_91 rfl ?_
          refine AQ.ic_eq (tgt := 104) eX9_line_99 (by decide) (by first | assumption | exact ⟨by omega, by omega⟩) (by first | assumption | exact ⟨by omega, by omega⟩) (fun br34 => ?_) (fun br34 => ?_)
          · skip
            refine q_sub (lv2 := [(0, vr f), (1, vi ax), (2, vi ay), (3, vi bx), (4, vi by'), (5, vi lp), (6, vi l1), (7, vi l2), (8, vi lc), (9, vi (gm_gc ax ay bx by')), (10, vi n)]) [0, 1, 2, 3, 4, 5, 6, 7, 8, 9, 10] rfl ?_
            exact jn104 (fun q9 => q9.elim e29 (fun q8 => q8.2 (by unfold gm_sx gm_sy; omega)))
          · skip
            refine q_blk (lv2 := [(0, vr f), (1, vi ax), (2, vi ay), (3, vi bx), (4, vi by'), (5, vi lp), (6, vi l1), (7, vi l2), (8, vi lc), (9, vi (gm_gc ax ay bx by')), (10, vi n), (11, vi (ax + ((Int.tdiv (bx - ax) (gm_gc ax ay bx by')) * n))), (12, vi (ay + ((Int.tdiv (by' - ay) (gm_gc ax ay bx by')) * n)))]) (st2 := [vi 4]) kX9_line_102 rfl ?_
            exact q_ri rfl eX9_line_103 ⟨4, rfl, Or.inl ⟨(gm_line4 hX hb hl s1 s2).mp ⟨n, ⟨by omega, by omega⟩, Or.inr ⟨e31, fun q9 => by unfold gm_sx gm_sy at q9; omega⟩⟩, rfl⟩, rfl⟩
      · skip
        refine AQ.of (AS.if_eq_t (tgt := 104) eX9_line_70 (by decide) ⟨by decide, by decide⟩ (by decide)) ?_
        refine q_sub (lv2 := [(0, vr f), (1, vi ax), (2, vi ay), (3, vi bx), (4, vi by'), (5, vi lp), (6, vi l1), (7, vi l2), (8, vi lc), (9, vi (gm_gc ax ay bx by')), (10, vi n)]) [0, 1, 2, 3, 4, 5, 6, 7, 8, 9, 10] rfl ?_
        exact jn104 (fun q9 => q9.elim e29 (fun q8 => e31 q8.1))
