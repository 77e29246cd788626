/-! CornerClaimsModel: its changes. -/
theorem VD.same {D E : Int → Int} (h : VD D) (g : gm_same D E) : VD E := by
  obtain ⟨g0, g1, g2, g3, g4, g5⟩ := g
  obtain ⟨h0, h1, h2, h3, h4, h5⟩ := h
  refine ⟨by omega, by omega, by omega, by omega, fun k k0 k1 => ?_, fun p p0 p1 => ?_⟩
  · have q := g4 k k0 (by omega)
    have r := h4 k k0 (by omega)
    rw [q.1, q.2.1, q.2.2, g0, g1]
    exact r
  · have q := g5 p p0 (by omega)
    have r := h5 p p0 (by omega)
    rw [q.1, q.2.1, q.2.2.1, g0, g1]
    refine ⟨r.1, r.2.1, r.2.2.1, fun k k0 k1 => ?_⟩
    have q2 := q.2.2.2 k k0 k1
    rw [q2.1, q2.2]
    exact r.2.2.2 k k0 k1
theorem VE.same {D E : Int → Int} (h : VE D) (g : gm_same D E) : VE E := by
  obtain ⟨g0, g1, g2, g3, g4, g5⟩ := g
  intro p k m p0 p1 k0 k1 m1
  have q := g5 p p0 (by omega)
  rw [q.2.1] at m1
  have q1 := q.2.2.2 k k0 (by omega)
  have q2 := q.2.2.2 m (by omega) m1
  rw [q1.1, q1.2, q2.1, q2.2]
  exact h p k m p0 (by omega) k0 k1 m1
theorem gm_same.sp {D E : Int → Int} (g : gm_same D E) {p : Int} (p0 : 0 ≤ p) (p1 : p < D 3) : gm_sp D E p := ⟨(g.2.2.2.2.2 p p0 p1).2.1, (g.2.2.2.2.2 p p0 p1).2.2.1, (g.2.2.2.2.2 p p0 p1).2.2.2⟩
theorem CMS.same {D E cm : Int → Int} (h : CMS D cm) (hD : VD D) (g : gm_same D E) : CMS E cm := h.c hD g.2.2.1 g.2.2.2.1 (fun k k0 k1 => ⟨(g.2.2.2.2.1 k k0 k1).1, (g.2.2.2.2.1 k k0 k1).2.1⟩) fun p p0 p1 => Or.inl (g.sp p0 p1)
theorem gm_same.rf {D : Int → Int} : gm_same D D := ⟨rfl, rfl, rfl, rfl, fun _ _ _ => ⟨rfl, rfl, rfl⟩, fun _ _ _ => ⟨rfl, rfl, rfl, fun _ _ _ => ⟨rfl, rfl⟩⟩⟩
theorem gm_same.sy {D E : Int → Int} (g : gm_same D E) : gm_same E D := by
  obtain ⟨g0, g1, g2, g3, g4, g5⟩ := g
  refine ⟨g0.symm, g1.symm, g2.symm, g3.symm, fun k k0 k1 => ?_, fun p p0 p1 => ?_⟩
  · have q := g4 k k0 (by omega)
    exact ⟨q.1.symm, q.2.1.symm, q.2.2.symm⟩
  · have q := g5 p p0 (by omega)
    refine ⟨q.1.symm, q.2.1.symm, q.2.2.1.symm, fun k k0 k1 => ?_⟩
    have q2 := q.2.2.2 k k0 (by omega)
    exact ⟨q2.1.symm, q2.2.symm⟩
theorem gm_same.tr {D E F : Int → Int} (g : gm_same D E) (g' : gm_same E F) : gm_same D F := by
  obtain ⟨g0, g1, g2, g3, g4, g5⟩ := g
  obtain ⟨h0, h1, h2, h3, h4, h5⟩ := g'
  refine ⟨h0.trans g0, h1.trans g1, h2.trans g2, h3.trans g3, fun k k0 k1 => ?_, fun p p0 p1 => ?_⟩
  · have q := g4 k k0 (by omega)
    have r := h4 k k0 (by omega)
    exact ⟨r.1.trans q.1, r.2.1.trans q.2.1, r.2.2.trans q.2.2⟩
  · have q := g5 p p0 (by omega)
    have r := h5 p p0 (by omega)
    refine ⟨r.1.trans q.1, r.2.1.trans q.2.1, r.2.2.1.trans q.2.2.1, fun k k0 k1 => ?_⟩
    have q2 := q.2.2.2 k k0 (by omega)
    have r2 := r.2.2.2 k k0 (by omega)
    exact ⟨r2.1.trans q2.1, r2.2.trans q2.2⟩
theorem gm_eq8.same {D E : Int → Int} (h : VD D) (e : gm_eq8 D E) : gm_same D E := by
  obtain ⟨h0, h1, h2, h3, h4, h5⟩ := h
  refine ⟨e _ (by omega) (by omega), e _ (by omega) (by omega), e _ (by omega) (by omega), e _ (by omega) (by omega), fun k k0 k1 => ⟨e _ (by omega) (by omega), e _ (by omega) (by omega), e _ (by omega) (by omega)⟩, fun p p0 p1 => ?_⟩
  have r := (h5 p p0 p1).2.1
  exact ⟨e _ (by omega) (by omega), e _ (by omega) (by omega), e _ (by omega) (by omega), fun k k0 k1 => ⟨e _ (by omega) (by omega), e _ (by omega) (by omega)⟩⟩
theorem CO.eq8 {D E : Int → Int} {L : GL} (h : CO D L) (e : gm_eq8 D E) : CO E L := by
  rcases h with ⟨a, b, c⟩ | ⟨a, b, c, d, f⟩
  · exact Or.inl ⟨(e _ (by omega) (by omega)).trans a, (e _ (by omega) (by omega)).trans b, c⟩
  · refine Or.inr ⟨(e _ (by omega) (by omega)).trans a, (e _ (by omega) (by omega)).trans b, c, d, fun k v hk => ?_⟩
    have hl : k < (gm_ed L).length := by
      obtain ⟨q, -⟩ := List.getElem?_eq_some_iff.mp hk
      exact q
    exact (e _ (by omega) (by omega)).trans (f k v hk)
/-- there are claims for every board -/
theorem gm_sma_ex (D : Int → Int) (x y : Int) : ∀ m : Nat, ∃ z, gm_sma D x y m z
  | 0 => ⟨-1, rfl⟩
  | m + 1 => by
    obtain ⟨b, hb⟩ := gm_sma_ex D x y m
    by_cases c : gm_sP D x y b m
    · exact ⟨m, b, hb, Or.inl ⟨c, rfl⟩⟩
    · exact ⟨b, b, hb, Or.inr ⟨c, rfl⟩⟩
theorem gm_cms_ex {D : Int → Int} (hD : VD D) : ∃ cm, CMS D cm := by
  refine ⟨fun k => Classical.choose (gm_sma_ex D (sX D k) (sY D k) (D 3).toNat), fun k k0 k1 => ?_⟩
  have q := Classical.choose_spec (gm_sma_ex D (sX D k) (sY D k) (D 3).toNat)
  have r := gm_sma_r q
  have := hD.2.2.2.1
  exact ⟨q, r.1, Int.lt_of_lt_of_le r.2 (by omega)⟩
/-- a corner taken out, as the model does it -/
def gm_tko (D : Int → Int) (p k j : Int) : Int := if j = 67 + 27 * p then D j - 1 else if 69 + 27 * p + 2 * k ≤ j ∧ j < 69 + 27 * p + 2 * (pN D p - 1) then D (j + 2) else D j
theorem gm_dn1 {D E : Int → Int} {c k i q r n0 m : Int} (hE : ∀ j, E j = if j = n0 then m else if c + 2 * k ≤ j ∧ j < c + i then D (j + 2) else D j) (hq : q = c + i) (hr : r = c + i + 2) (hi : 2 * k ≤ i) (k0 : 0 ≤ k) (hn : n0 < c) : ∀ j, am_uI E q (E r) j = if j = n0 then m else if c + 2 * k ≤ j ∧ j < c + (i + 1) then D (j + 2) else D j := by
  intro j
  subst hq hr
  unfold am_uI
  by_cases e : j = c + i
  · rw [if_pos e, hE, if_neg (by omega), if_neg (by omega), if_neg (by omega), if_pos (by omega)]
    exact congrArg D (by omega)
  · rw [if_neg e, hE]
    by_cases e0 : j = n0
    · rw [if_pos e0, if_pos e0]
    · rw [if_neg e0, if_neg e0]
      by_cases q : c + 2 * k ≤ j ∧ j < c + i
      · rw [if_pos q, if_pos (by omega)]
      · rw [if_neg q, if_neg (by omega)]
theorem gm_tko_o {D : Int → Int} {p k j : Int} (k0 : 0 ≤ k) (n1 : pN D p ≤ 12) (h : j < 67 + 27 * p ∨ j = 68 + 27 * p ∨ 93 + 27 * p ≤ j) : gm_tko D p k j = D j := by
  unfold gm_tko
  rw [if_neg (by omega), if_neg (by omega)]
theorem gm_tko_up {D : Int → Int} {p k : Int} (p0 : 0 ≤ p) (p1 : p < 6) (k0 : 0 ≤ k) (n1 : pN D p ≤ 12) : gm_up D (gm_tko D p k) := ⟨gm_tko_o k0 n1 (by omega), gm_tko_o k0 n1 (by omega), fun i h => gm_tko_o k0 n1 (by omega)⟩
theorem gm_tko_x {D : Int → Int} {p k j : Int} (k0 : 0 ≤ k) (j0 : 0 ≤ j) (j1 : j < pN D p - 1) : pX (gm_tko D p k) p j = gm_ou k (pX D p) j ∧ pY (gm_tko D p k) p j = gm_ou k (pY D p) j := by
  unfold pX pY gm_tko gm_ou
  constructor
  · rw [if_neg (by omega)]
    by_cases e : j < k
    · rw [if_neg (by omega), if_pos e]
    · rw [if_pos (by omega), if_neg e]
      exact congrArg D (by omega)
  · rw [if_neg (by omega)]
    by_cases e : j < k
    · rw [if_neg (by omega), if_pos e]
    · rw [if_pos (by omega), if_neg e]
      exact congrArg D (by omega)
theorem gm_tko_same {D : Int → Int} {p k : Int} (hD : VD D) (p0 : 0 ≤ p) (p1 : p < D 3) (k0 : 0 ≤ k) : gm_same (gm_toD D p k) (gm_tko D p k) := by
  have hn := hD.n p0 p1
  have h2 := hD.2.2.1
  have h3 := hD.2.2.2.1
  unfold gm_toD
  have s : ∀ i, i < 67 + 27 * p ∨ 93 + 27 * p ≤ i → gm_tko D p k i = gm_setP D p (pN D p - 1) (pC D p) (gm_ou k (pX D p)) (gm_ou k (pY D p)) i := fun i h => by
    rw [gm_setP_o h]
    exact gm_tko_o k0 hn.2 (by omega)
  have s2 : ∀ i, i < 67 → gm_setP D p (pN D p - 1) (pC D p) (gm_ou k (pX D p)) (gm_ou k (pY D p)) i = D i := fun i h => gm_setP_o (by omega)
  refine ⟨s _ (by omega), s _ (by omega), s _ (by omega), s _ (by omega), fun q q0 q1 => ?_, fun q q0 q1 => ?_⟩
  · rw [s2 2 (by omega)] at q1
    exact ⟨s _ (by omega), s _ (by omega), s _ (by omega)⟩
  · rw [s2 3 (by omega)] at q1
    by_cases e : q = p
    · subst e
      refine ⟨s _ (by omega), ?_, ?_, fun j j0 j1 => ?_⟩
      · rw [gm_setP_n]
        unfold pN gm_tko
        rw [if_pos rfl]
      · rw [gm_setP_c]
        exact gm_tko_o k0 hn.2 (by omega)
      · rw [gm_setP_n] at j1
        obtain ⟨e1, e2⟩ := gm_setP_x (D := D) (p := q) (n := pN D q - 1) (c := pC D q) (xs := gm_ou k (pX D q)) (ys := gm_ou k (pY D q)) j0 (by omega)
        rw [e1, e2]
        exact gm_tko_x k0 j0 j1
    · obtain ⟨e1, e2, e3, e4⟩ := gm_setP_q (D := D) (p := p) (n := pN D p - 1) (c := pC D p) (xs := gm_ou k (pX D p)) (ys := gm_ou k (pY D p)) e
      rw [e1]
      have b := hD.n q0 q1
      refine ⟨s _ (by omega), ?_, s _ (by omega), fun j j0 j1 => ⟨s _ (by omega), s _ (by omega)⟩⟩
      have := s (67 + 27 * q) (by omega)
      rw [← e1]
      exact this
/-- a polygon removed, as the model does it -/
def gm_rmv (D : Int → Int) (p j : Int) : Int := if j = 3 then D 3 - 1 else if 66 + 27 * p ≤ j ∧ j < 66 + 27 * (D 3 - 1) then D (j + 27) else D j
theorem gm_rm1 {D E : Int → Int} {c i m q r : Int} (hE : ∀ j, E j = if j = 3 then m else if c ≤ j ∧ j < i then D (j + 27) else D j) (hq : q = i) (hr : r = i + 27) (hi : c ≤ i) (hc : 66 ≤ c) : ∀ j, am_uI E q (E r) j = if j = 3 then m else if c ≤ j ∧ j < i + 1 then D (j + 27) else D j := by
  intro j
  subst hq hr
  unfold am_uI
  by_cases e : j = q
  · rw [if_pos e, hE, if_neg (by omega), if_neg (by omega), if_neg (by omega), if_pos (by omega), e]
  · rw [if_neg e, hE]
    by_cases e0 : j = 3
    · rw [if_pos e0, if_pos e0]
    · rw [if_neg e0, if_neg e0]
      by_cases q : c ≤ j ∧ j < q
      · rw [if_pos q, if_pos (by omega)]
      · rw [if_neg q, if_neg (by omega)]
theorem gm_rmv_up {D : Int → Int} {p : Int} (p0 : 0 ≤ p) (h3 : D 3 ≤ 6) : gm_up D (gm_rmv D p) := by
  refine ⟨?_, ?_, fun i h => ?_⟩ <;>
  · unfold gm_rmv
    rw [if_neg (by omega), if_neg (by omega)]
theorem gm_rmv_same {D : Int → Int} {p : Int} (hD : VD D) (p0 : 0 ≤ p) (p1 : p < D 3) : gm_same (gm_drP D p) (gm_rmv D p) := by
  have h2 := hD.2.2.1
  have h3 := hD.2.2.2.1
  have s : ∀ i, i < 66 + 27 * (D 3 - 1) → gm_rmv D p i = gm_drP D p i := fun i h => by
    unfold gm_rmv gm_drP
    by_cases e : i = 3
    · rw [if_pos e, if_pos e]
    · rw [if_neg e, if_neg e]
      by_cases q : 66 + 27 * p ≤ i
      · rw [if_pos (by omega), if_pos (by omega)]
      · rw [if_neg (by omega), if_neg (by omega)]
  have e3 : gm_drP D p 3 = D 3 - 1 := if_pos rfl
  have e2 : gm_drP D p 2 = D 2 := by unfold gm_drP; rw [if_neg (by omega), if_neg (by omega)]
  refine ⟨s _ (by omega), s _ (by omega), s _ (by omega), s _ (by omega), fun q q0 q1 => ?_, fun q q0 q1 => ?_⟩
  · rw [e2] at q1
    exact ⟨s _ (by omega), s _ (by omega), s _ (by omega)⟩
  · rw [e3] at q1
    have b := gm_drP_q (D := D) p0 q0 (show q < 5 by omega)
    have d : 0 ≤ gm_di p q ∧ gm_di p q < D 3 := by unfold gm_di; split <;> omega
    have n9 := hD.n d.1 d.2
    have b2 := b.2.1
    refine ⟨s _ (by omega), s _ (by omega), s _ (by omega), fun j j0 j1 => ⟨s _ (by omega), s _ (by omega)⟩⟩
theorem gm_cl_same {D : Int → Int} {p i : Int} (hD : VD D) (p0 : 0 ≤ p) (p1 : p < D 3) (hi : i = 68 + 27 * p) : gm_same (gm_clP D p) (am_uI D i 1) ∧ gm_up D (am_uI D i 1) := by
  have h2 := hD.2.2.1
  have h3 := hD.2.2.2.1
  subst hi
  have s : ∀ j, j ≠ 68 + 27 * p → am_uI D (68 + 27 * p) 1 j = D j := fun j h => if_neg h
  have s2 : ∀ j, j < 67 → gm_clP D p j = D j := fun j h => gm_setP_o (by omega)
  refine ⟨⟨?_, ?_, ?_, ?_, fun q q0 q1 => ?_, fun q q0 q1 => ?_⟩, s _ (by omega), s _ (by omega), fun j h => s _ (by omega)⟩
  · rw [s2 _ (by omega)]; exact s _ (by omega)
  · rw [s2 _ (by omega)]; exact s _ (by omega)
  · rw [s2 _ (by omega)]; exact s _ (by omega)
  · rw [s2 _ (by omega)]; exact s _ (by omega)
  · rw [s2 2 (by omega)] at q1
    refine ⟨?_, ?_, ?_⟩
    · show am_uI D _ 1 _ = gm_clP D p _
      rw [s2 _ (by omega)]; exact s _ (by omega)
    · show am_uI D _ 1 _ = gm_clP D p _
      rw [s2 _ (by omega)]; exact s _ (by omega)
    · show am_uI D _ 1 _ = gm_clP D p _
      rw [s2 _ (by omega)]; exact s _ (by omega)
  · rw [s2 3 (by omega)] at q1
    have n9 := hD.n q0 q1
    unfold gm_clP
    by_cases e : q = p
    · subst e
      rw [gm_setP_w, gm_setP_n, gm_setP_c]
      refine ⟨s _ (by omega), s _ (by omega), am_uI_at _ _ _, fun j j0 j1 => ?_⟩
      obtain ⟨e1, e2⟩ := gm_setP_x (D := D) (p := q) (n := pN D q) (c := 1) (xs := pX D q) (ys := pY D q) j0 (by omega)
      rw [e1, e2]
      exact ⟨s _ (by omega), s _ (by omega)⟩
    · obtain ⟨e1, e2, e3, e4⟩ := gm_setP_q (D := D) (p := p) (n := pN D p) (c := 1) (xs := pX D p) (ys := pY D p) e
      rw [e1, e2, e3]
      refine ⟨s _ (by omega), s _ (by omega), s _ (by omega), fun j j0 j1 => ?_⟩
      obtain ⟨f1, f2⟩ := e4 j j0 (by omega)
      rw [f1, f2]
      exact ⟨s _ (by omega), s _ (by omega)⟩

set_option maxHeartbeats 1000000 in
theorem c_X9_copy {w : am_w} {h : AH} {a b : Nat} {f g : Int → Int} (ha : h.1 a = some (100, 1528, f, am_N)) (hb : h.1 b = some (100, 1528, g, am_N)) (hne : a ≠ b)  : AE w m_X9_copy 1 [vr a, vr b] h (am_unit (fun h1 => h1.1 b = some (100, 1528, gm_cp f g 1528, am_N) ∧ am_fr h h1 b (b + 1))) := by
  refine AE.of wf_X9_copy (Nat.le_of_ble_eq_true rfl) (am_ok_v) ?_
  refine q_blk (lv2 := [(0, vr a), (1, vr b), (2, vi 0)]) (st2 := []) kX9_copy_0 rfl ?_
  refine am_lp2 (I := fun (k : Int) (hh : AH) => (0 ≤ k ∧ k ≤ 1528) ∧ hh.1 b = some (100, 1528, gm_cp f g k, am_N) ∧ am_fr h hh b (b + 1)) (μ := fun (k : Int) (hh : AH) => (1528 - k).toNat) (G := fun (k : Int) (hh : AH) => AQ w m_X9_copy 1 2 [(0, vr a), (1, vr b), (2, vi k)] [] hh (am_unit (fun h1 => h1.1 b = some (100, 1528, gm_cp f g 1528, am_N) ∧ am_fr h h1 b (b + 1)))) ?_ 0 h (⟨⟨by omega, by omega⟩, by rw [gm_cp_0]; exact hb, am_fr.rf⟩)
  intro k hh hI2 ih1
  obtain ⟨⟨k0, k1⟩, hb9, hf9⟩ := hI2
  have ha' := (hf9.2 a (by omega)).trans ha
  refine q_blk (lv2 := [(0, vr a), (1, vr b), (2, vi k)]) (st2 := [vi 1528, vi k]) kX9_copy_2 rfl ?_
  refine AQ.ic_ge (tgt := 21) eX9_copy_6 (by decide) (by first | assumption | exact ⟨by omega, by omega⟩) ⟨by decide, by decide⟩ (fun br3 => ?_) (fun br3 => ?_)
  · skip
    exact q_rv rfl eX9_copy_21 ⟨rfl, by have q := hb9; rw [show k = 1528 by omega] at q; exact q, hf9⟩
  · skip
    refine q_blk (lv2 := [(0, vr a), (1, vr b), (2, vi k)]) (st2 := [vi k, vr a, vi k, vr b]) kX9_copy_9 rfl ?_
    refine q_ia eX9_copy_13 ha' (by decide) (by omega) (by omega) (z := (f k)) rfl ?_
    refine q_is eX9_copy_14 hb9 (by omega) (by omega) (fun h4 e5 => ?_)
    have k6 := (am_ne e5 a (by omega)).trans ha'
    have k7 := am_at e5
    refine q_blk (lv2 := [(0, vr a), (1, vr b), (2, vi (k + 1))]) (st2 := []) kX9_copy_15 rfl ?_
    refine q_goto (tgt := 2) eX9_copy_18 (by decide) ?_
    exact ih1 (k + 1) h4 (⟨⟨by omega, by omega⟩, by rw [← gm_cp_s f g k0]; exact k7, am_fr.tr hf9 (am_fr.st e5 (by omega) (by omega))⟩) (by omega)

theorem am_rw_i {n : Nat} {i : Int} (h0 : 0 ≤ i) (h1 : i < 8) : am_rw n i = some (n + 5 + i.toNat) := if_pos ⟨h0, h1⟩
set_option maxHeartbeats 4000000 in
theorem c_X9_push {w : am_w} {h : AH} {n : Nat} {th bl tl ps er ea eo ud g0 g1 g2 g3 ns ne se : Int} {D : Int → Int} (hm : MM h n th bl tl ps er ea eo ud g0 g1 g2 g3 ns ne se D) (hu : 0 ≤ ud ∧ ud ≤ 8) {bf od : Int → Int} {rw : Int → Int → Int} (hR : MRX h n bf od rw) {a : Nat} {f : Int → Int} (haa : a = n + 2 ∨ a = n + 3) (ha : h.1 a = some (100, 1528, f, am_N))  : AE w m_X9_push 3 [vr n, vr a] h (am_unit (fun h1 => ∃ ud' rw', PU ud rw f ud' rw' ∧ (1 ≤ ud' ∧ ud' ≤ 8) ∧ MM h1 n th bl tl ps er ea eo ud' g0 g1 g2 g3 ns ne se D ∧ MRX h1 n bf od rw' ∧ am_fr h h1 n (n + 13) ∧ h1.1 a = some (100, 1528, f, am_N))) := by
  refine AE.of wf_X9_push (Nat.le_of_ble_eq_true rfl) (am_ok_v) ?_
  obtain ⟨m0, m1⟩ := id hm
  refine q_blk (lv2 := [(0, vr n), (1, vr a)]) (st2 := [vr n]) kX9_push_0 rfl ?_
  refine q_gi eX9_push_1 fl_RX9_315 (Or.inl rfl) m0 (z := ud) rfl ?_
  refine q_blk (lv2 := [(0, vr n), (1, vr a)]) (st2 := [vi 8, vi ud]) kX9_push_4 rfl ?_
  refine AQ.ic_ne (tgt := 50) eX9_push_6 (by decide) (by first | assumption | exact ⟨by omega, by omega⟩) ⟨by decide, by decide⟩ (fun br1 => ?_) (fun br1 => ?_)
  · skip
    refine q_blk (lv2 := [(0, vr n), (1, vr a)]) (st2 := [vr n, vr a]) kX9_push_50 rfl ?_
    refine q_gr eX9_push_52 fl_RX9_25 (Or.inr ⟨_, rfl⟩) m0 rfl ?_
    refine q_blk (lv2 := [(0, vr n), (1, vr a)]) (st2 := [vr n, vr (n + 4), vr a]) kX9_push_55 rfl ?_
    refine q_gi eX9_push_56 fl_RX9_315 (Or.inl rfl) m0 (z := ud) rfl ?_
    refine q_aa eX9_push_59 hR.2.2.1 (by decide) (by omega) (by omega) (am_rw_i (by omega) (by omega)) ?_
    refine AQ.callSv (av := [vr a, vr (n + 5 + (ud).toNat)]) (st := []) (c_X9_copy (a := a) (b := (n + 5 + (ud).toNat)) ha (hR.2.2.2 (ud) (by omega) (by omega)) (by omega)) lk_RX9_245 (by decide) rfl rfl (Nat.le_of_ble_eq_true rfl) eX9_push_60 (fun h4 e3 => ?_)
    obtain ⟨Ch4, Fh4⟩ := e3
    have M63 := hm.kept Fh4 (by omega)
    have R63 := hR.row (i := ud) (by omega) (by omega) Ch4 Fh4
    have F63 : am_fr h h4 n (n + 13) := am_fr.tr am_fr.rf (am_fr.mo Fh4 (by omega) (by omega))
    obtain ⟨m0z, m1z⟩ := id M63
    refine q_blk (lv2 := [(0, vr n), (1, vr a)]) (st2 := [vr n, vr n]) kX9_push_63 rfl ?_
    refine q_gi eX9_push_65 fl_RX9_315 (Or.inl rfl) m0z (z := ud) rfl ?_
    refine q_blk (lv2 := [(0, vr n), (1, vr a)]) (st2 := [vi (ud + 1), vr n]) kX9_push_68 rfl ?_
    refine q_pi eX9_push_70 fl_RX9_315 (fun q hq => by cases hq; exact Or.inl rfl) (Or.inl rfl) m0z (Nat.le_of_ble_eq_true rfl) (l2 := [th, 0, bl, tl, ps, er, ea, eo, 0, 0, 0, (ud + 1), g0, g1, g2, g3, ns, ne, se, 0]) rfl (fun h5 e6 => ?_)
    have k7 := am_at e6
    have k8 := (am_ne e6 (n + 2) (by omega)).trans m1z
    exact q_rv rfl eX9_push_73 ⟨rfl, _, (gm_uR rw ud (gm_cp f (rw ud) 1528)), Or.inl ⟨by omega, rfl, by rw [gm_uR_at]; exact gm_cp_8 _ _, fun i i0 i1 => by rw [gm_uR_ne _ _ (by omega)]; exact gm_eq8.rf⟩, ⟨by omega, by omega⟩, ⟨k7, k8⟩, R63.kept (lo := n) (hi := n + 1) (am_fr.st e6 (by omega) (by omega)) (by omega), am_fr.tr F63 (am_fr.st e6 (by omega) (by omega)), by
      rcases haa with q | q
      · have w9 := k8
        subst q
        exact w9.trans (m1.symm.trans ha)
      · subst q
        have w9 := (R63.kept (lo := n) (hi := n + 1) (am_fr.st e6 (by omega) (by omega)) (by omega)).2.1
        exact w9.trans (hR.2.1.symm.trans ha)⟩
  · skip
    refine q_blk (lv2 := [(0, vr n), (1, vr a), (2, vi 1)]) (st2 := []) kX9_push_9 rfl ?_
    refine am_lp3 (I := fun (k : Int) (hh : AH) (rw9 : Int → Int → Int) => (1 ≤ k ∧ k ≤ 8) ∧ MM hh n th bl tl ps er ea eo ud g0 g1 g2 g3 ns ne se D ∧ MRX hh n bf od rw9 ∧ am_fr h hh (n + 5) (n + 13) ∧ (∀ i, 0 ≤ i → i < k - 1 → gm_eq8 (rw (i + 1)) (rw9 i)) ∧ ∀ i, k - 1 ≤ i → i < 8 → rw9 i = rw i) (μ := fun (k : Int) (hh : AH) (rw9 : Int → Int → Int) => (8 - k).toNat) (G := fun (k : Int) (hh : AH) (rw9 : Int → Int → Int) => AQ w m_X9_push 3 11 [(0, vr n), (1, vr a), (2, vi k)] [] hh (am_unit (fun h1 => ∃ ud' rw', PU ud rw f ud' rw' ∧ (1 ≤ ud' ∧ ud' ≤ 8) ∧ MM h1 n th bl tl ps er ea eo ud' g0 g1 g2 g3 ns ne se D ∧ MRX h1 n bf od rw' ∧ am_fr h h1 n (n + 13) ∧ h1.1 a = some (100, 1528, f, am_N)))) ?_ 1 h rw (⟨⟨by omega, by omega⟩, hm, hR, am_fr.rf, fun i i0 i1 => by omega, fun i i0 i1 => rfl⟩)
    intro k hh rw9 hI10 ih9
    obtain ⟨⟨k0, k1⟩, hm9, hR9, hf9, hA9, hB⟩ := hI10
    obtain ⟨m0', m1'⟩ := id hm9
    have ha9 := (hf9.2 a (by omega)).trans ha
    refine q_blk (lv2 := [(0, vr n), (1, vr a), (2, vi k)]) (st2 := [vi 8, vi k]) kX9_push_11 rfl ?_
    refine AQ.ic_ge (tgt := 40) eX9_push_14 (by decide) (by first | assumption | exact ⟨by omega, by omega⟩) ⟨by decide, by decide⟩ (fun br11 => ?_) (fun br11 => ?_)
    · skip
      refine q_blk (lv2 := [(0, vr n), (1, vr a), (2, vi k)]) (st2 := [vr n, vr n]) kX9_push_40 rfl ?_
      refine q_gi eX9_push_42 fl_RX9_315 (Or.inl rfl) m0' (z := ud) rfl ?_
      refine q_blk (lv2 := [(0, vr n), (1, vr a), (2, vi k)]) (st2 := [vi (ud - 1), vr n]) kX9_push_45 rfl ?_
      refine q_pi eX9_push_47 fl_RX9_315 (fun q hq => by cases hq; exact Or.inl rfl) (Or.inl rfl) m0' (Nat.le_of_ble_eq_true rfl) (l2 := [th, 0, bl, tl, ps, er, ea, eo, 0, 0, 0, (ud - 1), g0, g1, g2, g3, ns, ne, se, 0]) rfl (fun h12 e13 => ?_)
      have k14 := am_at e13
      have k15 := (am_ne e13 (n + 2) (by omega)).trans m1'
      have k16 := (am_ne e13 (n + 4) (by omega)).trans hR9.2.2.1
      have k17 := (am_ne e13 a (by omega)).trans ha9
      refine q_blk (lv2 := [(0, vr n), (1, vr a), (2, vi k)]) (st2 := [vr n, vr a]) kX9_push_50 rfl ?_
      refine q_gr eX9_push_52 fl_RX9_25 (Or.inr ⟨_, rfl⟩) k14 rfl ?_
      refine q_blk (lv2 := [(0, vr n), (1, vr a), (2, vi k)]) (st2 := [vr n, vr (n + 4), vr a]) kX9_push_55 rfl ?_
      refine q_gi eX9_push_56 fl_RX9_315 (Or.inl rfl) k14 (z := (ud - 1)) rfl ?_
      refine q_aa eX9_push_59 k16 (by decide) (by omega) (by omega) (am_rw_i (by omega) (by omega)) ?_
      have R60 := hR9.kept (lo := n) (hi := n + 1) (am_fr.st e13 (by omega) (by omega)) (by omega)
      have F60 : am_fr h h12 n (n + 13) := am_fr.tr (am_fr.mo hf9 (by omega) (by omega)) (am_fr.st e13 (by omega) (by omega))
      have M60 : MM h12 n th bl tl ps er ea eo ((ud - 1)) g0 g1 g2 g3 ns ne se D := ⟨k14, k15⟩
      refine AQ.callSv (av := [vr a, vr (n + 5 + ((ud - 1)).toNat)]) (st := []) (c_X9_copy (a := a) (b := (n + 5 + ((ud - 1)).toNat)) k17 (R60.2.2.2 ((ud - 1)) (by omega) (by omega)) (by omega)) lk_RX9_245 (by decide) rfl rfl (Nat.le_of_ble_eq_true rfl) eX9_push_60 (fun h20 e19 => ?_)
      obtain ⟨Ch20, Fh20⟩ := e19
      have M63 := M60.kept Fh20 (by omega)
      have R63 := R60.row (i := (ud - 1)) (by omega) (by omega) Ch20 Fh20
      have F63 : am_fr h h20 n (n + 13) := am_fr.tr F60 (am_fr.mo Fh20 (by omega) (by omega))
      obtain ⟨m0z, m1z⟩ := id M63
      refine q_blk (lv2 := [(0, vr n), (1, vr a), (2, vi k)]) (st2 := [vr n, vr n]) kX9_push_63 rfl ?_
      refine q_gi eX9_push_65 fl_RX9_315 (Or.inl rfl) m0z (z := (ud - 1)) rfl ?_
      refine q_blk (lv2 := [(0, vr n), (1, vr a), (2, vi k)]) (st2 := [vi ((ud - 1) + 1), vr n]) kX9_push_68 rfl ?_
      refine q_pi eX9_push_70 fl_RX9_315 (fun q hq => by cases hq; exact Or.inl rfl) (Or.inl rfl) m0z (Nat.le_of_ble_eq_true rfl) (l2 := [th, 0, bl, tl, ps, er, ea, eo, 0, 0, 0, ((ud - 1) + 1), g0, g1, g2, g3, ns, ne, se, 0]) rfl (fun h21 e22 => ?_)
      have k23 := am_at e22
      have k24 := (am_ne e22 (n + 2) (by omega)).trans m1z
      exact q_rv rfl eX9_push_73 ⟨rfl, _, (gm_uR rw9 (ud - 1) (gm_cp f (rw9 (ud - 1)) 1528)), Or.inr ⟨by omega, by omega, by rw [show (7 : Int) = (ud - 1) by omega, gm_uR_at]; exact gm_cp_8 _ _, fun i i0 i1 => by rw [gm_uR_ne _ _ (by omega)]; exact hA9 i i0 (by omega)⟩, ⟨by omega, by omega⟩, ⟨k23, k24⟩, R63.kept (lo := n) (hi := n + 1) (am_fr.st e22 (by omega) (by omega)) (by omega), am_fr.tr F63 (am_fr.st e22 (by omega) (by omega)), by
      rcases haa with q | q
      · have w9 := k24
        subst q
        exact w9.trans (m1.symm.trans ha)
      · subst q
        have w9 := (R63.kept (lo := n) (hi := n + 1) (am_fr.st e22 (by omega) (by omega)) (by omega)).2.1
        exact w9.trans (hR.2.1.symm.trans ha)⟩
    · skip
      refine q_blk (lv2 := [(0, vr n), (1, vr a), (2, vi k)]) (st2 := [vr n]) kX9_push_17 rfl ?_
      refine q_gr eX9_push_18 fl_RX9_25 (Or.inr ⟨_, rfl⟩) m0' rfl ?_
      refine q_blk (lv2 := [(0, vr n), (1, vr a), (2, vi k)]) (st2 := [vi k, vr (n + 4)]) kX9_push_21 rfl ?_
      refine q_aa eX9_push_22 hR9.2.2.1 (by decide) (by omega) (by omega) (am_rw_i (by omega) (by omega)) ?_
      refine q_blk (lv2 := [(0, vr n), (1, vr a), (2, vi k)]) (st2 := [vr n, vr (n + 5 + (k).toNat)]) kX9_push_23 rfl ?_
      refine q_gr eX9_push_24 fl_RX9_25 (Or.inr ⟨_, rfl⟩) m0' rfl ?_
      refine q_blk (lv2 := [(0, vr n), (1, vr a), (2, vi k)]) (st2 := [vi (k - 1), vr (n + 4), vr (n + 5 + (k).toNat)]) kX9_push_27 rfl ?_
      refine q_aa eX9_push_30 hR9.2.2.1 (by decide) (by omega) (by omega) (am_rw_i (by omega) (by omega)) ?_
      refine AQ.callSv (av := [vr (n + 5 + (k).toNat), vr (n + 5 + ((k - 1)).toNat)]) (st := []) (c_X9_copy (a := (n + 5 + (k).toNat)) (b := (n + 5 + ((k - 1)).toNat)) (hR9.2.2.2 (k) (by omega) (by omega)) (hR9.2.2.2 ((k - 1)) (by omega) (by omega)) (by omega)) lk_RX9_245 (by decide) rfl rfl (Nat.le_of_ble_eq_true rfl) eX9_push_31 (fun h27 e26 => ?_)
      obtain ⟨Ch27, Fh27⟩ := e26
      refine q_blk (lv2 := [(0, vr n), (1, vr a), (2, vi (k + 1))]) (st2 := []) kX9_push_34 rfl ?_
      refine q_goto (tgt := 11) eX9_push_37 (by decide) ?_
      exact ih9 (k + 1) h27 (gm_uR rw9 (k - 1) (gm_cp (rw9 k) (rw9 (k - 1)) 1528)) (⟨⟨by omega, by omega⟩, hm9.kept Fh27 (by omega), (show MRX _ n bf od (gm_uR rw9 (k - 1) (gm_cp (rw9 k) (rw9 (k - 1)) 1528)) from hR9.row (by omega) (by omega) Ch27 Fh27), am_fr.tr hf9 (am_fr.mo Fh27 (by omega) (by omega)), fun i i0 i1 => by
      by_cases c : i = k - 1
      · rw [c, gm_uR_at, show k - 1 + 1 = k by omega, ← hB k (by omega) (by omega)]
        exact gm_cp_8 _ _
      · rw [gm_uR_ne _ _ c]; exact hA9 i i0 (by omega), fun i i0 i1 => by
      rw [gm_uR_ne _ _ (by omega)]; exact hB i (by omega) i1⟩) (by omega)
