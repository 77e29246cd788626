/-! the model's reader: boards that say the same; sums. -/
theorem gm_same.c {D E : Int → Int} (g : gm_same D E) {p k : Int} (p0 : 0 ≤ p) (p1 : p < D 3) (k0 : 0 ≤ k) (k1 : k < pN D p) : pX E p k = pX D p k ∧ pY E p k = pY D p k := (g.2.2.2.2.2 p p0 p1).2.2.2 k k0 k1
theorem gm_tk_s {D E : Int → Int} (g : gm_same D E) {x y : Int} : gm_tk D x y → gm_tk E x y := by
  intro h
  rcases h with ⟨k, k0, k1, k2, k3⟩ | ⟨p, p0, p1, k, k0, k1, k2, k3⟩
  · have q := g.2.2.2.2.1 k k0 k1
    exact Or.inl ⟨k, k0, by rw [g.2.2.1]; exact k1, q.1.trans k2, q.2.1.trans k3⟩
  · have q := g.c p0 p1 k0 k1
    exact Or.inr ⟨p, p0, by rw [g.2.2.2.1]; exact p1, k, k0, by rw [(g.2.2.2.2.2 p p0 p1).2.1]; exact k1, q.1.trans k2, q.2.trans k3⟩
theorem gm_oD_s {D E : Int → Int} (hD : VD D) (g : gm_same D E) {x y : Int} : gm_oD D x y → gm_oD E x y := by
  rintro ⟨p, p0, p1, k, k0, k1, h⟩
  have r := g.2.2.2.2.2 p p0 p1
  have n := hD.n p0 p1
  have k2 : k < pN D p := by unfold gm_ns at k1; split at k1 <;> omega
  refine ⟨p, p0, by rw [g.2.2.2.1]; exact p1, k, k0, by rw [r.2.1, r.2.2.1]; exact k1, ?_⟩
  rw [r.2.1]
  exact (gm_sd_c (n := pN D p) (xs := pX D p) (ys := pY D p) (xs' := pX E p) (ys' := pY E p) r.2.2.2 k0 k2).mpr h
theorem gm_oc_s {D E : Int → Int} (hD : VD D) (g : gm_same D E) {x y : Int} : gm_oc D x y ↔ gm_oc E x y :=
  ⟨fun h => h.imp (gm_tk_s g) (gm_oD_s hD g), fun h => h.imp (gm_tk_s g.sy) (gm_oD_s (hD.same g) g.sy)⟩
theorem gm_bs_s {D E : Int → Int} (g : gm_same D E) {ax ay bx by' : Int} : gm_bs D ax ay bx by' → gm_bs E ax ay bx by' := by
  rintro ⟨k, k0, k1, h⟩
  have q := g.2.2.2.2.1 k k0 k1
  exact ⟨k, k0, by rw [g.2.2.1]; exact k1, by rw [q.1, q.2.1]; exact h⟩
theorem gm_bc_s {D E : Int → Int} (g : gm_same D E) {lp lc ax ay bx by' : Int} : gm_bc D lp lc ax ay bx by' → gm_bc E lp lc ax ay bx by' := by
  rintro ⟨p, p0, p1, k, k0, k1, k2, h⟩
  have q := g.c p0 p1 k0 k1
  exact ⟨p, p0, by rw [g.2.2.2.1]; exact p1, k, k0, by rw [(g.2.2.2.2.2 p p0 p1).2.1]; exact k1, k2, by rw [q.1, q.2]; exact h⟩
theorem gm_cr_s {D E : Int → Int} (hD : VD D) (g : gm_same D E) {lp l1 l2 ax ay bx by' : Int} : gm_cr D lp l1 l2 ax ay bx by' → gm_cr E lp l1 l2 ax ay bx by' := by
  rintro ⟨p, p0, p1, k, k0, k1, k2, h⟩
  have r := g.2.2.2.2.2 p p0 p1
  have n := hD.n p0 p1
  have k3 : k < pN D p := by unfold gm_ns at k1; split at k1 <;> omega
  have q := g.c p0 p1 k0 k3
  have nx := gm_nx_r (n := pN D p) k0 k3
  have q2 := g.c p0 p1 nx.1 nx.2
  exact ⟨p, p0, by rw [g.2.2.2.1]; exact p1, k, k0, by rw [r.2.1, r.2.2.1]; exact k1, k2, by rw [r.2.1, q.1, q.2, q2.1, q2.2]; exact h⟩
theorem gm_lr_s {D E : Int → Int} (hD : VD D) (g : gm_same D E) {lp lc l1 l2 ax ay bx by' z : Int} (h : gm_lr D lp lc l1 l2 ax ay bx by' z) : gm_lr E lp lc l1 l2 ax ay bx by' z := by
  have hE := hD.same g
  have b : (gm_bs D ax ay bx by' ∨ gm_bc D lp lc ax ay bx by') ↔ (gm_bs E ax ay bx by' ∨ gm_bc E lp lc ax ay bx by') := ⟨fun h => h.imp (gm_bs_s g) (gm_bc_s g), fun h => h.imp (gm_bs_s g.sy) (gm_bc_s g.sy)⟩
  have c : gm_cr D lp l1 l2 ax ay bx by' ↔ gm_cr E lp l1 l2 ax ay bx by' := ⟨gm_cr_s hD g, gm_cr_s hE g.sy⟩
  rcases h with ⟨h1, h2⟩ | ⟨h1, ⟨h2, h3⟩ | ⟨h2, h3⟩⟩
  · exact Or.inl ⟨b.mp h1, h2⟩
  · exact Or.inr ⟨fun q => h1 (b.mpr q), Or.inl ⟨c.mp h2, h3⟩⟩
  · exact Or.inr ⟨fun q => h1 (b.mpr q), Or.inr ⟨fun q => h2 (c.mpr q), h3⟩⟩
theorem gm_rC_s {D E : Int → Int} (hD : VD D) (g : gm_same D E) {p x y z : Int} (p0 : 0 ≤ p) (p1 : p < D 3) (h : gm_rC D p x y z) : gm_rC E p x y z := by
  have r := g.2.2.2.2.2 p p0 p1
  have n := hD.n p0 p1
  have q := g.c p0 p1 (k := pN D p - 1) (by omega) (by omega)
  unfold gm_rC at h ⊢
  rw [r.2.1, r.2.2.1, q.1, q.2]
  rcases h with h | ⟨h1, h | ⟨h2, ⟨h3, h4⟩ | ⟨h3, h4⟩⟩⟩
  · exact Or.inl h
  · exact Or.inr ⟨h1, Or.inl h⟩
  · exact Or.inr ⟨h1, Or.inr ⟨h2, Or.inl ⟨gm_tk_s g h3, h4⟩⟩⟩
  · exact Or.inr ⟨h1, Or.inr ⟨h2, Or.inr ⟨fun q => h3 (gm_tk_s g.sy q), gm_lr_s hD g h4⟩⟩⟩
theorem gm_rL_s {D E : Int → Int} (hD : VD D) (g : gm_same D E) {p z : Int} (p0 : 0 ≤ p) (p1 : p < D 3) (h : gm_rL D p z) : gm_rL E p z := by
  have r := g.2.2.2.2.2 p p0 p1
  have n := hD.n p0 p1
  have q := g.c p0 p1 (k := pN D p - 1) (by omega) (by omega)
  have q0 := g.c p0 p1 (k := 0) (by omega) (by omega)
  unfold gm_rL at h ⊢
  rw [r.2.1, r.2.2.1, q.1, q.2, q0.1, q0.2]
  rcases h with h | ⟨h1, h | ⟨h2, h4⟩⟩
  · exact Or.inl h
  · exact Or.inr ⟨h1, Or.inl h⟩
  · exact Or.inr ⟨h1, Or.inr ⟨h2, gm_lr_s hD g h4⟩⟩
theorem gm_same.sy3 {D E : Int → Int} (g : gm_same D E) {p : Int} (p1 : p < D 3) : p < E 3 := by rw [g.2.2.2.1]; exact p1
theorem gm_rC_i {D E : Int → Int} (hD : VD D) (g : gm_same D E) {p x y z : Int} (p0 : 0 ≤ p) (p1 : p < D 3) : gm_rC D p x y z ↔ gm_rC E p x y z := ⟨gm_rC_s hD g p0 p1, gm_rC_s (hD.same g) g.sy p0 (g.sy3 p1)⟩
theorem gm_rL_i {D E : Int → Int} (hD : VD D) (g : gm_same D E) {p z : Int} (p0 : 0 ≤ p) (p1 : p < D 3) : gm_rL D p z ↔ gm_rL E p z := ⟨gm_rL_s hD g p0 p1, gm_rL_s (hD.same g) g.sy p0 (g.sy3 p1)⟩
theorem gm_addS_g {D E : Int → Int} (hD : VD D) (h2 : D 2 < 20) (g : gm_same D E) (x y v : Int) : gm_same (gm_addS D x y v) (gm_addS E x y v) := by
  obtain ⟨g0, g1, g2, g3, g4, g5⟩ := g
  have v2 := hD.2.2.1
  have v3 := hD.2.2.2.1
  have S : ∀ (F : Int → Int), 0 ≤ F 2 → ∀ i, (i < 2 ∨ (3 ≤ i ∧ i < 6 + 3 * F 2) ∨ 9 + 3 * F 2 ≤ i) → gm_addS F x y v i = F i := fun F f0 i h => by
    unfold gm_addS
    rw [am_uI_ne _ _ (by omega), am_uI_ne _ _ (by omega), am_uI_ne _ _ (by omega), am_uI_ne _ _ (by omega)]
  have T : ∀ (F : Int → Int), 0 ≤ F 2 → gm_addS F x y v 2 = F 2 + 1 ∧ gm_addS F x y v (6 + 3 * F 2) = x ∧ gm_addS F x y v (7 + 3 * F 2) = y ∧ gm_addS F x y v (8 + 3 * F 2) = v := fun F f0 => by
    unfold gm_addS
    refine ⟨am_uI_at _ _ _, ?_, ?_, ?_⟩
    · rw [am_uI_ne _ _ (by omega), am_uI_ne _ _ (by omega), am_uI_ne _ _ (by omega), am_uI_at]
    · rw [am_uI_ne _ _ (by omega), am_uI_ne _ _ (by omega), am_uI_at]
    · rw [am_uI_ne _ _ (by omega), am_uI_at]
  obtain ⟨d1, d2, d3, d4⟩ := T D v2.1
  obtain ⟨e1, e2, e3, e4⟩ := T E (by omega)
  have SD := S D v2.1
  have SE := S E (by omega)
  refine ⟨?_, ?_, ?_, ?_, fun k k0 k1 => ?_, fun p p0 p1 => ?_⟩
  · rw [SD _ (by omega), SE _ (by omega)]; exact g0
  · rw [SD _ (by omega), SE _ (by omega)]; exact g1
  · rw [d1, e1, g2]
  · rw [SD _ (by omega), SE _ (by omega)]; exact g3
  · rw [d1] at k1
    unfold sX sY sV
    by_cases c : k = D 2
    · rw [c, d2, d3, d4]
      rw [g2] at e2 e3 e4
      exact ⟨e2, e3, e4⟩
    · rw [SD _ (by omega), SE _ (by omega), SD _ (by omega), SE _ (by omega), SD _ (by omega), SE _ (by omega)]
      exact g4 k k0 (by omega)
  · rw [SD 3 (by omega)] at p1
    have q := g5 p p0 p1
    have n := hD.n p0 p1
    have F : ∀ (F : Int → Int), 0 ≤ F 2 → F 2 < 20 → ∀ i, 66 ≤ i → gm_addS F x y v i = F i := fun F f0 f1 i h => S F f0 i (by omega)
    have FD := F D v2.1 h2
    have FE := F E (by omega) (by omega)
    unfold pO pN pC pX pY at q ⊢
    rw [FD _ (by omega), FE _ (by omega), FD _ (by omega), FE _ (by omega), FD _ (by omega), FE _ (by omega)]
    refine ⟨q.1, q.2.1, q.2.2.1, fun k k0 k1 => ?_⟩
    rw [FD _ (by omega), FE _ (by omega), FD _ (by omega), FE _ (by omega)]
    exact q.2.2.2 k k0 k1
theorem gm_stP_s {D E : Int → Int} (hD : VD D) (h3 : D 3 < 6) (g : gm_same D E) (o x y : Int) : gm_same (gm_stP D o x y) (gm_stP E o x y) := by
  obtain ⟨g0, g1, g2, g3, g4, g5⟩ := g
  have v2 := hD.2.2.1
  have v3 := hD.2.2.2.1
  have S : ∀ (F : Int → Int), 0 ≤ F 3 → ∀ i, i ≠ 3 → (i < 66 + 27 * F 3 ∨ 71 + 27 * F 3 ≤ i) → gm_stP F o x y i = F i := fun F f0 i h h' => by
    unfold gm_stP
    rw [am_uI_ne _ _ (by omega), am_uI_ne _ _ (by omega), am_uI_ne _ _ (by omega), am_uI_ne _ _ (by omega), am_uI_ne _ _ (by omega), am_uI_ne _ _ (by omega)]
  have T : ∀ (F : Int → Int), 0 ≤ F 3 → gm_stP F o x y 3 = F 3 + 1 ∧ gm_stP F o x y (66 + 27 * F 3) = o ∧ gm_stP F o x y (67 + 27 * F 3) = 1 ∧ gm_stP F o x y (68 + 27 * F 3) = 0 ∧ gm_stP F o x y (69 + 27 * F 3) = x ∧ gm_stP F o x y (70 + 27 * F 3) = y := fun F f0 => by
    unfold gm_stP
    refine ⟨am_uI_at _ _ _, ?_, ?_, ?_, ?_, ?_⟩
    · rw [am_uI_ne _ _ (by omega), am_uI_ne _ _ (by omega), am_uI_ne _ _ (by omega), am_uI_ne _ _ (by omega), am_uI_ne _ _ (by omega), am_uI_at]
    · rw [am_uI_ne _ _ (by omega), am_uI_ne _ _ (by omega), am_uI_ne _ _ (by omega), am_uI_ne _ _ (by omega), am_uI_at]
    · rw [am_uI_ne _ _ (by omega), am_uI_ne _ _ (by omega), am_uI_ne _ _ (by omega), am_uI_at]
    · rw [am_uI_ne _ _ (by omega), am_uI_ne _ _ (by omega), am_uI_at]
    · rw [am_uI_ne _ _ (by omega), am_uI_at]
  obtain ⟨d1, d2, d3, d4, d5, d6⟩ := T D v3.1
  obtain ⟨e1, e2, e3, e4, e5, e6⟩ := T E (by omega)
  have SD := S D v3.1
  have SE := S E (by omega)
  refine ⟨?_, ?_, ?_, ?_, fun k k0 k1 => ?_, fun p p0 p1 => ?_⟩
  · rw [SD _ (by omega) (by omega), SE _ (by omega) (by omega)]; exact g0
  · rw [SD _ (by omega) (by omega), SE _ (by omega) (by omega)]; exact g1
  · rw [SD _ (by omega) (by omega), SE _ (by omega) (by omega)]; exact g2
  · rw [d1, e1, g3]
  · rw [SD 2 (by omega) (by omega)] at k1
    unfold sX sY sV
    rw [SD _ (by omega) (by omega), SE _ (by omega) (by omega), SD _ (by omega) (by omega), SE _ (by omega) (by omega), SD _ (by omega) (by omega), SE _ (by omega) (by omega)]
    exact g4 k k0 k1
  · rw [d1] at p1
    by_cases c : p = D 3
    · unfold pO pN pC pX pY
      rw [c, d2, d3, d4]
      rw [g3] at e2 e3 e4 e5 e6
      refine ⟨e2, e3, e4, fun k k0 k1 => ?_⟩
      obtain rfl : k = 0 := by omega
      rw [show 69 + 27 * D 3 + 2 * 0 = 69 + 27 * D 3 by omega, show 70 + 27 * D 3 + 2 * 0 = 70 + 27 * D 3 by omega, d5, d6]
      exact ⟨e5, e6⟩
    · have q := g5 p p0 (by omega)
      have n := hD.n p0 (by omega)
      unfold pN at n
      unfold pO pN pC pX pY at q ⊢
      rw [SD _ (by omega) (by omega), SE _ (by omega) (by omega), SD _ (by omega) (by omega), SE _ (by omega) (by omega), SD _ (by omega) (by omega), SE _ (by omega) (by omega)]
      refine ⟨q.1, q.2.1, q.2.2.1, fun k k0 k1 => ?_⟩
      rw [SD _ (by omega) (by omega), SE _ (by omega) (by omega), SD _ (by omega) (by omega), SE _ (by omega) (by omega)]
      exact q.2.2.2 k k0 k1
theorem gm_setP_s {D E : Int → Int} (hD : VD D) (g : gm_same D E) {p n c : Int} {xs ys xs' ys' : Int → Int} (p0 : 0 ≤ p) (hn : n ≤ 12) (hx : ∀ k, 0 ≤ k → k < n → xs' k = xs k ∧ ys' k = ys k) : gm_same (gm_setP D p n c xs ys) (gm_setP E p n c xs' ys') := by
  obtain ⟨g0, g1, g2, g3, g4, g5⟩ := g
  have v2 := hD.2.2.1
  have v3 := hD.2.2.2.1
  have SD : ∀ i, i < 67 → gm_setP D p n c xs ys i = D i := fun i h => gm_setP_o (by omega)
  have SE : ∀ i, i < 67 → gm_setP E p n c xs' ys' i = E i := fun i h => gm_setP_o (by omega)
  refine ⟨?_, ?_, ?_, ?_, fun k k0 k1 => ?_, fun q q0 q1 => ?_⟩
  · rw [SD _ (by omega), SE _ (by omega)]; exact g0
  · rw [SD _ (by omega), SE _ (by omega)]; exact g1
  · rw [SD _ (by omega), SE _ (by omega)]; exact g2
  · rw [SD _ (by omega), SE _ (by omega)]; exact g3
  · rw [SD 2 (by omega)] at k1
    unfold sX sY sV
    rw [SD _ (by omega), SE _ (by omega), SD _ (by omega), SE _ (by omega), SD _ (by omega), SE _ (by omega)]
    exact g4 k k0 k1
  · rw [SD 3 (by omega)] at q1
    have r := g5 q q0 q1
    by_cases e : q = p
    · subst e
      rw [gm_setP_w, gm_setP_w, gm_setP_n, gm_setP_n, gm_setP_c, gm_setP_c]
      refine ⟨r.1, rfl, rfl, fun k k0 k1 => ?_⟩
      have a := gm_setP_x (D := D) (p := q) (n := n) (c := c) (xs := xs) (ys := ys) k0 (by omega)
      have b := gm_setP_x (D := E) (p := q) (n := n) (c := c) (xs := xs') (ys := ys') k0 (by omega)
      rw [a.1, a.2, b.1, b.2]
      exact hx k k0 k1
    · have a := gm_setP_q (D := D) (p := p) (n := n) (c := c) (xs := xs) (ys := ys) e
      have b := gm_setP_q (D := E) (p := p) (n := n) (c := c) (xs := xs') (ys := ys') e
      have m := hD.n q0 q1
      rw [a.1, a.2.1, a.2.2.1, b.1, b.2.1, b.2.2.1]
      refine ⟨r.1, r.2.1, r.2.2.1, fun k k0 k1 => ?_⟩
      have a4 := a.2.2.2 k k0 (by omega)
      have b4 := b.2.2.2 k k0 (by omega)
      rw [a4.1, a4.2, b4.1, b4.2]
      exact r.2.2.2 k k0 k1
theorem gm_in_s {n k x : Int} {xs xs' : Int → Int} (h : ∀ j, 0 ≤ j → j < n → xs' j = xs j) (k1 : k ≤ n) (k0 : 0 ≤ k) {j : Int} (j0 : 0 ≤ j) (j1 : j < n + 1) : gm_in k x xs' j = gm_in k x xs j := by
  unfold gm_in
  by_cases c : j < k
  · rw [if_pos c, if_pos c]; exact h j j0 (by omega)
  · rw [if_neg c, if_neg c]
    by_cases d : j = k
    · rw [if_pos d, if_pos d]
    · rw [if_neg d, if_neg d]; exact h _ (by omega) (by omega)
theorem gm_adC_s {D E : Int → Int} (hD : VD D) (g : gm_same D E) {p x y : Int} (p0 : 0 ≤ p) (p1 : p < D 3) (hn : pN D p < 12) : gm_same (gm_adC D p x y) (gm_adC E p x y) := by
  have r := g.2.2.2.2.2 p p0 p1
  have n := hD.n p0 p1
  unfold gm_adC
  rw [r.2.1, r.2.2.1]
  exact gm_setP_s hD g p0 (by omega) fun k k0 k1 => ⟨gm_in_s (fun j j0 j1 => (r.2.2.2 j j0 j1).1) (Int.le_refl _) (by omega) k0 k1, gm_in_s (fun j j0 j1 => (r.2.2.2 j j0 j1).2) (Int.le_refl _) (by omega) k0 k1⟩
theorem gm_clP_s {D E : Int → Int} (hD : VD D) (g : gm_same D E) {p : Int} (p0 : 0 ≤ p) (p1 : p < D 3) : gm_same (gm_clP D p) (gm_clP E p) := by
  have r := g.2.2.2.2.2 p p0 p1
  have n := hD.n p0 p1
  unfold gm_clP
  rw [r.2.1]
  exact gm_setP_s hD g p0 (by omega) r.2.2.2
theorem gm_bd.same {D E F : Int → Int} (hD : VD D) (g : gm_same D E) (b : gm_bd E F) : gm_same D F := by
  obtain ⟨g0, g1, g2, g3, g4, g5⟩ := g
  have v2 := hD.2.2.1
  have v3 := hD.2.2.2.1
  refine ⟨(b _ (by omega) (by omega)).trans g0, (b _ (by omega) (by omega)).trans g1, (b _ (by omega) (by omega)).trans g2, (b _ (by omega) (by omega)).trans g3, fun k k0 k1 => ?_, fun p p0 p1 => ?_⟩
  · have q := g4 k k0 k1
    exact ⟨(b _ (by omega) (by omega)).trans q.1, (b _ (by omega) (by omega)).trans q.2.1, (b _ (by omega) (by omega)).trans q.2.2⟩
  · have q := g5 p p0 p1
    have n := hD.n p0 p1
    refine ⟨(b _ (by omega) (by omega)).trans q.1, (b _ (by omega) (by omega)).trans q.2.1, (b _ (by omega) (by omega)).trans q.2.2.1, fun k k0 k1 => ?_⟩
    have q2 := q.2.2.2 k k0 k1
    exact ⟨(b _ (by omega) (by omega)).trans q2.1, (b _ (by omega) (by omega)).trans q2.2⟩
/-! readers in two steps: what a statement's sign ends -/
theorem rB_as {A B C : Type} (a : (Int × Int) ⊕ A) (f : A → (Int × Int) ⊕ B) (g : B → (Int × Int) ⊕ C) : rB (rB a f) g = rB a fun x => rB (f x) g := by
  cases a <;> rfl
theorem rB_ite {A B : Type} (P : Prop) (a b : (Int × Int) ⊕ A) (f : A → (Int × Int) ⊕ B) : rB (gm_ite P a b) f = gm_ite P (rB a f) (rB b f) := by
  by_cases c : P
  · rw [gm_ite_t c, gm_ite_t c]
  · rw [gm_ite_f c, gm_ite_f c]
noncomputable def rS0 (kd st vl : Int → Int) (D : Int → Int) (he : Int) : (Int × Int) ⊕ (Int → Int) := if D 2 < 20 then rB (rP kd st vl (D 0) (D 1) (he + 1)) (fun q => gm_ite (gm_oc D q.1 q.2) (.inl (-4, st (he + 1 + 1))) (rB (rN kd st vl 1 99 (he + 1 + 1 + 1)) fun v => .inr (gm_addS D q.1 q.2 v))) else .inl (-5, st he)
theorem rS0_e (kd st vl D : Int → Int) (he : Int) : rS kd st vl D he = rB (rS0 kd st vl D he) fun D' => rB (rT kd st 59 (he + 1 + 1 + 1 + 1)) fun _ => .inr D' := by
  unfold rS rS0
  by_cases c : D 2 < 20
  · rw [if_pos c, if_pos c, rB_as]
    congr 1
    funext q
    rw [rB_ite, rB_as]
    rfl
  · rw [if_neg c, if_neg c]
    rfl
/-! sums in a score, five depths -/
theorem c_fac0 {w : am_w} {bf tx kd st vl : Int → Int} {tl N : Int} (hl : 0 ≤ tl ∧ tl ≤ 800) (hx : BX bf tx tl) (hg : TG tx kd st vl tl N) (hN : N ≤ 800) : PAC w m_X9_factor 6 (rA kd st vl none) 4 bf tx kd st vl tl N := c_X9_factorN hl hx hg hN (by decide)
theorem c_ter0 {w : am_w} {bf tx kd st vl : Int → Int} {tl N : Int} (hl : 0 ≤ tl ∧ tl ≤ 800) (hx : BX bf tx tl) (hg : TG tx kd st vl tl N) (hN : N ≤ 800) : PAC w m_X9_term 7 (rM kd st vl none) 4 bf tx kd st vl tl N := c_X9_term hl hx hg hN (by decide) (c_fac0 hl hx hg hN)
theorem c_sum0 {w : am_w} {bf tx kd st vl : Int → Int} {tl N : Int} (hl : 0 ≤ tl ∧ tl ≤ 800) (hx : BX bf tx tl) (hg : TG tx kd st vl tl N) (hN : N ≤ 800) : PAC w m_X9_sum 8 (rU kd st vl 0) 4 bf tx kd st vl tl N := c_X9_sum hl hx hg hN (by decide) (c_ter0 hl hx hg hN)
theorem c_fac1 {w : am_w} {bf tx kd st vl : Int → Int} {tl N : Int} (hl : 0 ≤ tl ∧ tl ≤ 800) (hx : BX bf tx tl) (hg : TG tx kd st vl tl N) (hN : N ≤ 800) : PAC w m_X9_factor 9 (rA kd st vl (some (rU kd st vl 0))) 3 bf tx kd st vl tl N := c_X9_factorS hl hx hg hN (by decide) (by decide) (c_sum0 hl hx hg hN)
theorem c_ter1 {w : am_w} {bf tx kd st vl : Int → Int} {tl N : Int} (hl : 0 ≤ tl ∧ tl ≤ 800) (hx : BX bf tx tl) (hg : TG tx kd st vl tl N) (hN : N ≤ 800) : PAC w m_X9_term 10 (rM kd st vl (some (rU kd st vl 0))) 3 bf tx kd st vl tl N := c_X9_term hl hx hg hN (by decide) (c_fac1 hl hx hg hN)
theorem c_sum1 {w : am_w} {bf tx kd st vl : Int → Int} {tl N : Int} (hl : 0 ≤ tl ∧ tl ≤ 800) (hx : BX bf tx tl) (hg : TG tx kd st vl tl N) (hN : N ≤ 800) : PAC w m_X9_sum 11 (rU kd st vl 1) 3 bf tx kd st vl tl N := c_X9_sum hl hx hg hN (by decide) (c_ter1 hl hx hg hN)
theorem c_fac2 {w : am_w} {bf tx kd st vl : Int → Int} {tl N : Int} (hl : 0 ≤ tl ∧ tl ≤ 800) (hx : BX bf tx tl) (hg : TG tx kd st vl tl N) (hN : N ≤ 800) : PAC w m_X9_factor 12 (rA kd st vl (some (rU kd st vl 1))) 2 bf tx kd st vl tl N := c_X9_factorS hl hx hg hN (by decide) (by decide) (c_sum1 hl hx hg hN)
theorem c_ter2 {w : am_w} {bf tx kd st vl : Int → Int} {tl N : Int} (hl : 0 ≤ tl ∧ tl ≤ 800) (hx : BX bf tx tl) (hg : TG tx kd st vl tl N) (hN : N ≤ 800) : PAC w m_X9_term 13 (rM kd st vl (some (rU kd st vl 1))) 2 bf tx kd st vl tl N := c_X9_term hl hx hg hN (by decide) (c_fac2 hl hx hg hN)
theorem c_sum2 {w : am_w} {bf tx kd st vl : Int → Int} {tl N : Int} (hl : 0 ≤ tl ∧ tl ≤ 800) (hx : BX bf tx tl) (hg : TG tx kd st vl tl N) (hN : N ≤ 800) : PAC w m_X9_sum 14 (rU kd st vl 2) 2 bf tx kd st vl tl N := c_X9_sum hl hx hg hN (by decide) (c_ter2 hl hx hg hN)
theorem c_fac3 {w : am_w} {bf tx kd st vl : Int → Int} {tl N : Int} (hl : 0 ≤ tl ∧ tl ≤ 800) (hx : BX bf tx tl) (hg : TG tx kd st vl tl N) (hN : N ≤ 800) : PAC w m_X9_factor 15 (rA kd st vl (some (rU kd st vl 2))) 1 bf tx kd st vl tl N := c_X9_factorS hl hx hg hN (by decide) (by decide) (c_sum2 hl hx hg hN)
theorem c_ter3 {w : am_w} {bf tx kd st vl : Int → Int} {tl N : Int} (hl : 0 ≤ tl ∧ tl ≤ 800) (hx : BX bf tx tl) (hg : TG tx kd st vl tl N) (hN : N ≤ 800) : PAC w m_X9_term 16 (rM kd st vl (some (rU kd st vl 2))) 1 bf tx kd st vl tl N := c_X9_term hl hx hg hN (by decide) (c_fac3 hl hx hg hN)
theorem c_sum3 {w : am_w} {bf tx kd st vl : Int → Int} {tl N : Int} (hl : 0 ≤ tl ∧ tl ≤ 800) (hx : BX bf tx tl) (hg : TG tx kd st vl tl N) (hN : N ≤ 800) : PAC w m_X9_sum 17 (rU kd st vl 3) 1 bf tx kd st vl tl N := c_X9_sum hl hx hg hN (by decide) (c_ter3 hl hx hg hN)
theorem c_fac4 {w : am_w} {bf tx kd st vl : Int → Int} {tl N : Int} (hl : 0 ≤ tl ∧ tl ≤ 800) (hx : BX bf tx tl) (hg : TG tx kd st vl tl N) (hN : N ≤ 800) : PAC w m_X9_factor 18 (rA kd st vl (some (rU kd st vl 3))) 0 bf tx kd st vl tl N := c_X9_factorS hl hx hg hN (by decide) (by decide) (c_sum3 hl hx hg hN)
theorem c_ter4 {w : am_w} {bf tx kd st vl : Int → Int} {tl N : Int} (hl : 0 ≤ tl ∧ tl ≤ 800) (hx : BX bf tx tl) (hg : TG tx kd st vl tl N) (hN : N ≤ 800) : PAC w m_X9_term 19 (rM kd st vl (some (rU kd st vl 3))) 0 bf tx kd st vl tl N := c_X9_term hl hx hg hN (by decide) (c_fac4 hl hx hg hN)
theorem c_sum4 {w : am_w} {bf tx kd st vl : Int → Int} {tl N : Int} (hl : 0 ≤ tl ∧ tl ≤ 800) (hx : BX bf tx tl) (hg : TG tx kd st vl tl N) (hN : N ≤ 800) : PAC w m_X9_sum 20 (rU kd st vl 4) 0 bf tx kd st vl tl N := c_X9_sum hl hx hg hN (by decide) (c_ter4 hl hx hg hN)
