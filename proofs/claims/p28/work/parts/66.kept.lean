/-! Corners apart, sides of different polygons apart: kept by every change. -/
theorem GX.none {D : Int → Int} (h : D 3 ≤ 0) : GX D := fun p q p0 p1 => by omega
theorem DX.none {D : Int → Int} (h : D 3 ≤ 0) : DX D := ⟨fun p k q m p0 p1 => by omega, fun s p k _ _ p0 p1 => by omega⟩
theorem gm_q4_s {n c i : Int} {xs ys xs' ys' : Int → Int} (e : ∀ k, 0 ≤ k → k < n → xs' k = xs k ∧ ys' k = ys k) (i0 : 0 ≤ i) (i1 : i < gm_ns n c) : gm_q4 n xs' ys' i = gm_q4 n xs ys i := by
  have l : i < n := by unfold gm_ns at i1; split at i1 <;> omega
  have r := gm_nx_r i0 l
  have a := e i i0 l
  have b := e _ r.1 r.2
  exact gm_q4_e a.1 a.2 b.1 b.2
theorem gm_mq_sy {s t : Int × Int × Int × Int} (h : gm_mq s t) : gm_mq t s := gm_mt_sy h
theorem GX.gen {D E : Int → Int} (hD : VD D) (h : GX D) (φ : Int → Int) (f : ∀ p, 0 ≤ p → p < E 3 → gm_ns (pN E p) (pC E p) ≤ 0 ∨ ((0 ≤ φ p ∧ φ p < D 3) ∧ pN E p = pN D (φ p) ∧ pC E p = pC D (φ p) ∧ ∀ k, 0 ≤ k → k < 12 → pX E p k = pX D (φ p) k ∧ pY E p k = pY D (φ p) k)) (g : ∀ p q, 0 ≤ p → p < E 3 → 0 ≤ q → q < E 3 → p ≠ q → φ p ≠ φ q) : GX E := by
  intro p q p0 p1 q0 q1 ne i j i0 i1 j0 j1
  rcases f p p0 p1 with a | ⟨⟨a0, a1⟩, a2, a3, a4⟩
  · omega
  · rcases f q q0 q1 with b | ⟨⟨b0, b1⟩, b2, b3, b4⟩
    · omega
    · have va := (hD.2.2.2.2.2 _ a0 a1).2.1
      have vb := (hD.2.2.2.2.2 _ b0 b1).2.1
      rw [a2, a3] at i1
      rw [b2, b3] at j1
      rw [a2, b2, gm_q4_s (fun k k0 k1 => a4 k k0 (by omega)) i0 i1, gm_q4_s (fun k k0 k1 => b4 k k0 (by omega)) j0 j1]
      exact h _ _ a0 a1 b0 b1 (g p q p0 p1 q0 q1 ne) i j i0 i1 j0 j1
theorem DX.gen {D E : Int → Int} (hD : VD D) (h : DX D) (φ : Int → Int) (s2 : E 2 = D 2) (s : ∀ k, 0 ≤ k → k < D 2 → sX E k = sX D k ∧ sY E k = sY D k) (f : ∀ p, 0 ≤ p → p < E 3 → ((0 ≤ φ p ∧ φ p < D 3) ∧ pN E p = pN D (φ p) ∧ ∀ k, 0 ≤ k → k < 12 → pX E p k = pX D (φ p) k ∧ pY E p k = pY D (φ p) k)) (g : ∀ p q, 0 ≤ p → p < E 3 → 0 ≤ q → q < E 3 → φ p = φ q → p = q) : DX E := by
  have v := fun p (p0 : 0 ≤ p) (p1 : p < E 3) => (hD.2.2.2.2.2 _ (f p p0 p1).1.1 (f p p0 p1).1.2).2.1
  refine ⟨fun p k q m p0 p1 k0 k1 q0 q1 m0 m1 x y => ?_, fun t p k t0 t1 p0 p1 k0 k1 => ?_⟩
  · obtain ⟨a1, a2, a3⟩ := f p p0 p1
    obtain ⟨b1, b2, b3⟩ := f q q0 q1
    have va := v p p0 p1
    have vb := v q q0 q1
    have c := a3 k k0 (by omega)
    have d := b3 m m0 (by omega)
    rw [c.1, d.1] at x
    rw [c.2, d.2] at y
    have w := h.1 _ k _ m a1.1 a1.2 k0 (by omega) b1.1 b1.2 m0 (by omega) x y
    exact ⟨g p q p0 p1 q0 q1 w.1, w.2⟩
  · obtain ⟨a1, a2, a3⟩ := f p p0 p1
    have va := v p p0 p1
    have c := a3 k k0 (by omega)
    have e := s t t0 (by omega)
    rw [c.1, c.2, e.1, e.2]
    exact h.2 t _ k t0 (by omega) a1.1 a1.2 k0 (by omega)
theorem GX.set {D : Int → Int} (hD : VD D) (h : GX D) {p n c : Int} {xs ys : Int → Int} (p0 : 0 ≤ p) (p1 : p < D 3) (hn : n ≤ 12) (g : ∀ i, 0 ≤ i → i < gm_ns n c → (∃ k, 0 ≤ k ∧ k < gm_ns (pN D p) (pC D p) ∧ gm_q4 n xs ys i = gm_q4 (pN D p) (pX D p) (pY D p) k) ∨ ∀ q j, 0 ≤ q → q < D 3 → q ≠ p → 0 ≤ j → j < gm_ns (pN D q) (pC D q) → ¬ gm_mq (gm_q4 n xs ys i) (gm_q4 (pN D q) (pX D q) (pY D q) j)) : GX (gm_setP D p n c xs ys) := by
  have key : ∀ q i j, 0 ≤ q → q < D 3 → q ≠ p → 0 ≤ i → i < gm_ns n c → 0 ≤ j → j < gm_ns (pN D q) (pC D q) → ¬ gm_mq (gm_q4 n xs ys i) (gm_q4 (pN D q) (pX D q) (pY D q) j) := by
    intro q i j q0 q1 ne i0 i1 j0 j1
    rcases g i i0 i1 with ⟨k, k0, k1, e⟩ | w
    · rw [e]; exact h p q p0 p1 q0 q1 (Ne.symm ne) k j k0 k1 j0 j1
    · exact w q j q0 q1 ne j0 j1
  have other : ∀ q, q ≠ p → 0 ≤ q → q < D 3 → ∀ j, 0 ≤ j → j < gm_ns (pN D q) (pC D q) → gm_q4 (pN D q) (pX (gm_setP D p n c xs ys) q) (pY (gm_setP D p n c xs ys) q) j = gm_q4 (pN D q) (pX D q) (pY D q) j := by
    intro q ne q0 q1 j j0 j1
    have hv := (hD.2.2.2.2.2 q q0 q1).2.1
    exact gm_q4_s (fun k k0 k1 => (gm_setP_q (D := D) (n := n) (c := c) (xs := xs) (ys := ys) ne).2.2.2 k k0 (by omega)) j0 j1
  intro q r q0 q1 r0 r1 ne i j i0 i1 j0 j1
  rw [gm_setP_o (i := 3) (by omega)] at q1 r1
  by_cases e : q = p
  · subst e
    have ur := gm_setP_q (D := D) (n := n) (c := c) (xs := xs) (ys := ys) (Ne.symm ne)
    rw [ur.1, ur.2.1] at j1
    rw [gm_setP_n, gm_setP_c] at i1
    rw [gm_setP_n, ur.1, gm_q4_s (fun k k0 k1 => gm_setP_x k0 (by omega)) i0 i1, other r (Ne.symm ne) r0 r1 j j0 j1]
    exact key r i j r0 r1 (Ne.symm ne) i0 i1 j0 j1
  · have uq := gm_setP_q (D := D) (n := n) (c := c) (xs := xs) (ys := ys) e
    rw [uq.1, uq.2.1] at i1
    by_cases e2 : r = p
    · subst e2
      rw [gm_setP_n, gm_setP_c] at j1
      rw [gm_setP_n, uq.1, gm_q4_s (fun k k0 k1 => gm_setP_x k0 (by omega)) j0 j1, other q e q0 q1 i i0 i1]
      exact fun w => key q j i q0 q1 e j0 j1 i0 i1 (gm_mq_sy w)
    · have ur := gm_setP_q (D := D) (n := n) (c := c) (xs := xs) (ys := ys) e2
      rw [ur.1, ur.2.1] at j1
      rw [uq.1, ur.1, other q e q0 q1 i i0 i1, other r e2 r0 r1 j j0 j1]
      exact h q r q0 q1 r0 r1 ne i j i0 i1 j0 j1
theorem DX.set {D : Int → Int} (hD : VD D) (h : DX D) {p n c : Int} {xs ys : Int → Int} (p0 : 0 ≤ p) (p1 : p < D 3) (hn : n ≤ 12) (hE : VE (gm_setP D p n c xs ys)) (g : ∀ i, 0 ≤ i → i < n → (∃ k, 0 ≤ k ∧ k < pN D p ∧ xs i = pX D p k ∧ ys i = pY D p k) ∨ ¬ gm_tk D (xs i) (ys i)) : DX (gm_setP D p n c xs ys) := by
  have e3 : gm_setP D p n c xs ys 3 = D 3 := gm_setP_o (by omega)
  have e2 : gm_setP D p n c xs ys 2 = D 2 := gm_setP_o (by omega)
  have d2 := hD.2.2.1
  have key : ∀ q i m, 0 ≤ q → q < D 3 → q ≠ p → 0 ≤ i → i < n → 0 ≤ m → m < pN D q → xs i = pX D q m → ys i = pY D q m → False := by
    intro q i m q0 q1 ne i0 i1 m0 m1 x y
    rcases g i i0 i1 with ⟨k, k0, k1, ex, ey⟩ | w
    · exact ne (h.1 p k q m p0 p1 k0 k1 q0 q1 m0 m1 (ex.symm.trans x) (ey.symm.trans y)).1.symm
    · exact w (Or.inr ⟨q, q0, q1, m, m0, m1, x.symm, y.symm⟩)
  refine ⟨fun q k r m q0 q1 k0 k1 r0 r1 m0 m1 x y => ?_, fun t q k t0 t1 q0 q1 k0 k1 w => ?_⟩
  · by_cases ne : q = r
    · subst ne
      refine ⟨rfl, Decidable.byContradiction fun z => ?_⟩
      have := hE.ne q0 q1 k0 k1 m0 m1 z
      omega
    · rw [e3] at q1 r1
      exfalso
      by_cases e : q = p
      · subst e
        have ur := gm_setP_q (D := D) (n := n) (c := c) (xs := xs) (ys := ys) (Ne.symm ne)
        rw [gm_setP_n] at k1
        rw [ur.1] at m1
        have v := (hD.2.2.2.2.2 r r0 r1).2.1
        have a := gm_setP_x (D := D) (p := q) (n := n) (c := c) (xs := xs) (ys := ys) k0 (by omega)
        have b := ur.2.2.2 m m0 (by omega)
        exact key r k m r0 r1 (Ne.symm ne) k0 k1 m0 m1 (a.1.symm.trans (x.trans b.1)) (a.2.symm.trans (y.trans b.2))
      · have uq := gm_setP_q (D := D) (n := n) (c := c) (xs := xs) (ys := ys) e
        rw [uq.1] at k1
        have v := (hD.2.2.2.2.2 q q0 q1).2.1
        have b := uq.2.2.2 k k0 (by omega)
        by_cases e2 : r = p
        · subst e2
          rw [gm_setP_n] at m1
          have a := gm_setP_x (D := D) (p := r) (n := n) (c := c) (xs := xs) (ys := ys) m0 (by omega)
          exact key q m k q0 q1 e m0 m1 k0 k1 (a.1.symm.trans (x.symm.trans b.1)) (a.2.symm.trans (y.symm.trans b.2))
        · have ur := gm_setP_q (D := D) (n := n) (c := c) (xs := xs) (ys := ys) e2
          rw [ur.1] at m1
          have v' := (hD.2.2.2.2.2 r r0 r1).2.1
          have a := ur.2.2.2 m m0 (by omega)
          exact ne (h.1 q k r m q0 q1 k0 k1 r0 r1 m0 m1 (b.1.symm.trans (x.trans a.1)) (b.2.symm.trans (y.trans a.2))).1
  · rw [e2] at t1
    rw [e3] at q1
    rw [show sX (gm_setP D p n c xs ys) t = sX D t from gm_setP_o (by omega), show sY (gm_setP D p n c xs ys) t = sY D t from gm_setP_o (by omega)] at w
    by_cases e : q = p
    · subst e
      rw [gm_setP_n] at k1
      have a := gm_setP_x (D := D) (p := q) (n := n) (c := c) (xs := xs) (ys := ys) k0 (by omega)
      rw [a.1, a.2] at w
      rcases g k k0 k1 with ⟨l, l0, l1, ex, ey⟩ | z
      · rw [ex, ey] at w
        exact h.2 t q l t0 t1 q0 q1 l0 l1 w
      · exact z (Or.inl ⟨t, t0, t1, w.1, w.2⟩)
    · have uq := gm_setP_q (D := D) (n := n) (c := c) (xs := xs) (ys := ys) e
      rw [uq.1] at k1
      have v := (hD.2.2.2.2.2 q q0 q1).2.1
      have b := uq.2.2.2 k k0 (by omega)
      rw [b.1, b.2] at w
      exact h.2 t q k t0 t1 q0 q1 k0 k1 w
theorem gm_in_c {D : Int → Int} {p l x y i : Int} (i0 : 0 ≤ i) (i1 : i < pN D p + 1) (l0 : 0 ≤ l) (l1 : l ≤ pN D p) : (∃ k, 0 ≤ k ∧ k < pN D p ∧ gm_in l x (pX D p) i = pX D p k ∧ gm_in l y (pY D p) i = pY D p k) ∨ (gm_in l x (pX D p) i = x ∧ gm_in l y (pY D p) i = y) := by
  rcases Int.lt_trichotomy i l with c | c | c
  · exact Or.inl ⟨i, i0, by omega, gm_in_lt c, gm_in_lt c⟩
  · subst c; exact Or.inr ⟨gm_in_eq, gm_in_eq⟩
  · exact Or.inl ⟨i - 1, by omega, by omega, gm_in_gt c, gm_in_gt c⟩
theorem DX.adC {D : Int → Int} (hD : VD D) (h : DX D) {p x y : Int} (p0 : 0 ≤ p) (p1 : p < D 3) (r : gm_rC D p x y 0) : DX (gm_adC D p x y) := by
  have v := (hD.2.2.2.2.2 p p0 p1).2.1
  obtain ⟨c0, c1, c2⟩ := gm_rC_0 r
  refine h.set hD p0 p1 (by omega) (gm_adC_ve hD h.ve p0 p1 c1 c2) fun i i0 i1 => ?_
  rcases gm_in_c (x := x) (y := y) i0 i1 (show 0 ≤ pN D p by omega) (Int.le_refl _) with q | ⟨a, b⟩
  · exact Or.inl q
  · rw [a, b]; exact Or.inr c2
theorem DX.bnD {D : Int → Int} (hD : VD D) (h : DX D) {p k x y : Int} (p0 : 0 ≤ p) (p1 : p < D 3) (k0 : 0 ≤ k) (k1 : k < pN D p) (r : gm_rB D p k x y 0) : DX (gm_bnD D p k x y) := by
  have v := (hD.2.2.2.2.2 p p0 p1).2.1
  obtain ⟨c0, c1, c2⟩ := gm_rB_0 r
  refine h.set hD p0 p1 (by omega) (gm_bnD_ve hD h.ve p0 p1 c1 k0 k1 c2) fun i i0 i1 => ?_
  rcases gm_in_c (l := k + 1) (x := x) (y := y) i0 i1 (by omega) (by omega) with q | ⟨a, b⟩
  · exact Or.inl q
  · rw [a, b]; exact Or.inr c2
theorem DX.clP {D : Int → Int} (hD : VD D) (h : DX D) {p : Int} (p0 : 0 ≤ p) (p1 : p < D 3) : DX (gm_clP D p) := by
  have v := (hD.2.2.2.2.2 p p0 p1).2.1
  exact h.set hD p0 p1 (by omega) (gm_clP_ve hD h.ve p0 p1) fun i i0 i1 => Or.inl ⟨i, i0, i1, rfl, rfl⟩
theorem DX.toD {D : Int → Int} (hD : VD D) (h : DX D) {p k : Int} (p0 : 0 ≤ p) (p1 : p < D 3) (k0 : 0 ≤ k) (k1 : k < pN D p) : DX (gm_toD D p k) := by
  have v := (hD.2.2.2.2.2 p p0 p1).2.1
  refine h.set hD p0 p1 (by omega) (gm_toD_ve hD h.ve p0 p1 k0 k1) fun i i0 i1 => Or.inl ?_
  by_cases c : i < k
  · exact ⟨i, i0, by omega, gm_ou_lt c, gm_ou_lt c⟩
  · exact ⟨i + 1, by omega, by omega, gm_ou_ge (by omega), gm_ou_ge (by omega)⟩
theorem DX.drP {D : Int → Int} (hD : VD D) (h : DX D) {p : Int} (p0 : 0 ≤ p) (p1 : p < D 3) : DX (gm_drP D p) ∧ ∀ _ : GX D, GX (gm_drP D p) := by
  have d3 := hD.2.2.2.1
  have d2 := hD.2.2.1
  have e3 : gm_drP D p 3 = D 3 - 1 := if_pos rfl
  have lo : ∀ i, i ≠ 3 → i < 66 + 27 * p → gm_drP D p i = D i := fun i a b => by unfold gm_drP; rw [if_neg a, if_neg (by omega)]
  have hi : ∀ i, 66 + 27 * p ≤ i → i < 228 → gm_drP D p i = D (i + 27) := fun i a b => by unfold gm_drP; rw [if_neg (by omega), if_pos (by omega)]
  let φ : Int → Int := fun q => if q < p then q else q + 1
  have f : ∀ q, 0 ≤ q → q < gm_drP D p 3 → ((0 ≤ φ q ∧ φ q < D 3) ∧ pN (gm_drP D p) q = pN D (φ q) ∧ pC (gm_drP D p) q = pC D (φ q) ∧ ∀ k, 0 ≤ k → k < 12 → pX (gm_drP D p) q k = pX D (φ q) k ∧ pY (gm_drP D p) q k = pY D (φ q) k) := by
    intro q q0 q1
    rw [e3] at q1
    by_cases c : q < p
    · rw [show φ q = q from if_pos c]
      exact ⟨⟨q0, by omega⟩, lo _ (by omega) (by omega), lo _ (by omega) (by omega), fun k k0 k1 => ⟨lo _ (by omega) (by omega), lo _ (by omega) (by omega)⟩⟩
    · rw [show φ q = q + 1 from if_neg c]
      have t : ∀ b : Int, 66 ≤ b → b ≤ 92 → gm_drP D p (b + 27 * q) = D (b + 27 * (q + 1)) := fun b b0 b1 => by
        rw [hi _ (by omega) (by omega)]
        congr 1
        omega
      refine ⟨⟨by omega, by omega⟩, t _ (by omega) (by omega), t _ (by omega) (by omega), fun k k0 k1 => ⟨?_, ?_⟩⟩
      · exact (congrArg (gm_drP D p) (show 69 + 27 * q + 2 * k = (69 + 2 * k) + 27 * q by omega)).trans ((t _ (by omega) (by omega)).trans (congrArg D (show 69 + 2 * k + 27 * (q + 1) = 69 + 27 * (q + 1) + 2 * k by omega)))
      · exact (congrArg (gm_drP D p) (show 70 + 27 * q + 2 * k = (70 + 2 * k) + 27 * q by omega)).trans ((t _ (by omega) (by omega)).trans (congrArg D (show 70 + 2 * k + 27 * (q + 1) = 70 + 27 * (q + 1) + 2 * k by omega)))
  have inj : ∀ q r, φ q = φ r → q = r := by
    intro q r e
    have e : (if q < p then q else q + 1) = if r < p then r else r + 1 := e
    split at e <;> split at e <;> omega
  refine ⟨h.gen hD φ (lo 2 (by omega) (by omega)) (fun k k0 k1 => ⟨lo _ (by omega) (by omega), lo _ (by omega) (by omega)⟩) (fun q q0 q1 => ⟨(f q q0 q1).1, (f q q0 q1).2.1, (f q q0 q1).2.2.2⟩) (fun q r _ _ _ _ e => inj q r e), fun hG => hG.gen hD φ (fun q q0 q1 => Or.inr (f q q0 q1)) fun q r _ _ _ _ ne e => ne (inj q r e)⟩
theorem DX.stP {D : Int → Int} (hD : VD D) (h : DX D) {o x y : Int} (ht : ¬ gm_tk D x y) : DX (gm_stP D o x y) ∧ ∀ _ : GX D, GX (gm_stP D o x y) := by
  have d3 := hD.2.2.2.1
  have d2 := hD.2.2.1
  have e : ∀ i : Int, i ≠ 3 → ¬ (66 + 27 * D 3 ≤ i ∧ i ≤ 70 + 27 * D 3) → gm_stP D o x y i = D i := fun i h1 h2 => gm_stP_o h1 h2
  have e3 : gm_stP D o x y 3 = D 3 + 1 := gm_stP_3
  obtain ⟨-, u1, u2, u3, u4⟩ := gm_stP_p (o := o) (x := x) (y := y) d3.1
  have f : ∀ p, 0 ≤ p → p < D 3 → pN (gm_stP D o x y) p = pN D p ∧ pC (gm_stP D o x y) p = pC D p ∧ ∀ k, 0 ≤ k → k < 12 → pX (gm_stP D o x y) p k = pX D p k ∧ pY (gm_stP D o x y) p k = pY D p k := fun p p0 p1 => ⟨e _ (by omega) (by omega), e _ (by omega) (by omega), fun k k0 k1 => ⟨e _ (by omega) (by omega), e _ (by omega) (by omega)⟩⟩
  have key : ∀ q m, 0 ≤ q → q < D 3 → 0 ≤ m → m < pN D q → x = pX D q m → y = pY D q m → False := fun q m q0 q1 m0 m1 a b => ht (Or.inr ⟨q, q0, q1, m, m0, m1, a.symm, b.symm⟩)
  refine ⟨⟨fun p k q m p0 p1 k0 k1 q0 q1 m0 m1 a b => ?_, fun t p k t0 t1 p0 p1 k0 k1 w => ?_⟩, fun hG => hG.gen hD (fun p => p) (fun p p0 p1 => ?_) fun p q _ _ _ _ ne => ne⟩
  · rw [e3] at p1 q1
    by_cases c : p = D 3
    · subst c
      rw [u1] at k1
      obtain rfl : k = 0 := by omega
      rw [u3] at a
      rw [u4] at b
      by_cases c : q = D 3
      · subst c
        rw [u1] at m1
        exact ⟨rfl, by omega⟩
      · have g := f q q0 (by omega)
        have v := (hD.2.2.2.2.2 q q0 (by omega)).2.1
        rw [g.1] at m1
        have w := g.2.2 m m0 (by omega)
        exact (key q m q0 (by omega) m0 m1 (a.trans w.1) (b.trans w.2)).elim
    · have g := f p p0 (by omega)
      have v := (hD.2.2.2.2.2 p p0 (by omega)).2.1
      rw [g.1] at k1
      have w := g.2.2 k k0 (by omega)
      by_cases c : q = D 3
      · subst c
        rw [u1] at m1
        obtain rfl : m = 0 := by omega
        rw [u3] at a
        rw [u4] at b
        exact (key p k p0 (by omega) k0 k1 (a.symm.trans w.1) (b.symm.trans w.2)).elim
      · have g' := f q q0 (by omega)
        have v' := (hD.2.2.2.2.2 q q0 (by omega)).2.1
        rw [g'.1] at m1
        have w' := g'.2.2 m m0 (by omega)
        exact h.1 p k q m p0 (by omega) k0 k1 q0 (by omega) m0 m1 (w.1.symm.trans (a.trans w'.1)) (w.2.symm.trans (b.trans w'.2))
  · rw [e3] at p1
    rw [show gm_stP D o x y 2 = D 2 from e 2 (by omega) (by omega)] at t1
    rw [show sX (gm_stP D o x y) t = sX D t from e _ (by omega) (by omega), show sY (gm_stP D o x y) t = sY D t from e _ (by omega) (by omega)] at w
    by_cases c : p = D 3
    · subst c
      rw [u1] at k1
      obtain rfl : k = 0 := by omega
      rw [u3, u4] at w
      exact ht (Or.inl ⟨t, t0, t1, w.1, w.2⟩)
    · have g := f p p0 (by omega)
      have v := (hD.2.2.2.2.2 p p0 (by omega)).2.1
      rw [g.1] at k1
      have z := g.2.2 k k0 (by omega)
      rw [z.1, z.2] at w
      exact h.2 t p k t0 t1 p0 (by omega) k0 k1 w
  · rw [e3] at p1
    by_cases c : p = D 3
    · subst c
      left
      rw [u1, u2]
      exact Int.le_refl _
    · have g := f p p0 (by omega)
      exact Or.inr ⟨⟨p0, by omega⟩, g⟩
theorem gm_cr_x {D : Int → Int} {lp l1 l2 ax ay bx by' p : Int} (h : ¬ gm_cr D lp l1 l2 ax ay bx by') (hl : lp = -1 ∨ lp = p) : ∀ q j, 0 ≤ q → q < D 3 → q ≠ p → 0 ≤ j → j < gm_ns (pN D q) (pC D q) → ¬ gm_mq (ax, ay, bx, by') (gm_q4 (pN D q) (pX D q) (pY D q) j) := fun q j q0 q1 ne j0 j1 => gm_cr_n h q0 q1 j0 j1 (by omega)
theorem GX.clP {D : Int → Int} (hD : VD D) (h : GX D) {p : Int} (p0 : 0 ≤ p) (p1 : p < D 3) (r : gm_rL D p 0) : GX (gm_clP D p) := by
  have v := (hD.2.2.2.2.2 p p0 p1).2.1
  obtain ⟨c0, c1⟩ := gm_rL_0 r
  have l := (gm_lr_cr (gm_rL_lr r)).2
  have n1 : gm_ns (pN D p) (pC D p) = pN D p - 1 := if_pos c0
  refine h.set hD p0 p1 (by omega) fun i i0 i1 => ?_
  have i1 : i < pN D p := i1
  by_cases c : i = pN D p - 1
  · subst c
    rw [gm_q4_l (n := pN D p) (i := pN D p - 1) (xs := pX D p) (ys := pY D p) rfl rfl (show pX D p (gm_nx (pN D p) (pN D p - 1)) = pX D p 0 by unfold gm_nx; rw [if_neg (by omega)]) (show pY D p (gm_nx (pN D p) (pN D p - 1)) = pY D p 0 by unfold gm_nx; rw [if_neg (by omega)])]
    exact Or.inr (gm_cr_x l (Or.inl rfl))
  · exact Or.inl ⟨i, i0, by omega, rfl⟩
theorem GX.adC {D : Int → Int} (hD : VD D) (h : GX D) {p x y : Int} (p0 : 0 ≤ p) (p1 : p < D 3) (r : gm_rC D p x y 0) : GX (gm_adC D p x y) := by
  have v := (hD.2.2.2.2.2 p p0 p1).2.1
  obtain ⟨c0, c1, -⟩ := gm_rC_0 r
  have l := (gm_lr_cr (gm_rC_lr r)).2
  have n1 : gm_ns (pN D p) (pC D p) = pN D p - 1 := if_pos c0
  have n2 : gm_ns (pN D p + 1) (pC D p) = pN D p := by unfold gm_ns; rw [if_pos c0]; omega
  refine h.set hD p0 p1 (by omega) fun i i0 i1 => ?_
  rw [n2] at i1
  by_cases c : i = pN D p - 1
  · subst c
    have e : gm_nx (pN D p + 1) (pN D p - 1) = pN D p := by rw [gm_nx_l (by omega)]; omega
    rw [show gm_q4 (pN D p + 1) (gm_in (pN D p) x (pX D p)) (gm_in (pN D p) y (pY D p)) (pN D p - 1) = (pX D p (pN D p - 1), pY D p (pN D p - 1), x, y) from gm_q4_l (gm_in_lt (by omega)) (gm_in_lt (by omega)) (by rw [e]; exact gm_in_eq) (by rw [e]; exact gm_in_eq)]
    exact Or.inr (gm_cr_x l (Or.inl rfl))
  · refine Or.inl ⟨i, i0, by omega, gm_q4_e (gm_in_lt (by omega)) (gm_in_lt (by omega)) ?_ ?_⟩
    · rw [gm_nx_l (by omega), gm_nx_l (by omega), gm_in_lt (by omega)]
    · rw [gm_nx_l (by omega), gm_nx_l (by omega), gm_in_lt (by omega)]
theorem GX.bnD {D : Int → Int} (hD : VD D) (h : GX D) {p k x y : Int} (p0 : 0 ≤ p) (p1 : p < D 3) (k0 : 0 ≤ k) (k1 : k < pN D p) (r : gm_rB D p k x y 0) : GX (gm_bnD D p k x y) := by
  have v := (hD.2.2.2.2.2 p p0 p1).2
  obtain ⟨c0, c1, c2⟩ := gm_rB_0 r
  obtain ⟨l1, l2⟩ := gm_rB_lr r
  have l1 := gm_lr_cr l1
  have l2 := gm_lr_cr l2
  have n1 : gm_ns (pN D p) (pC D p) = pN D p := if_neg (by omega)
  have n2 : gm_ns (pN D p + 1) (pC D p) = pN D p + 1 := if_neg (by omega)
  have e1 : gm_nx (pN D p + 1) k = k + 1 := gm_nx_l (by omega)
  have f1 : ∀ f : Int → Int, ∀ z : Int, gm_in (k + 1) z f (gm_nx (pN D p + 1) (k + 1)) = f (gm_nx (pN D p) k) := by
    intro f z
    by_cases q : k + 1 < pN D p
    · rw [gm_nx_l q, gm_nx_l (by omega), gm_in_gt (by omega)]
      congr 1
      omega
    · rw [gm_nx_e q, gm_nx_e (by omega), gm_in_lt (by omega)]
  have s1 : gm_q4 (pN D p + 1) (gm_in (k + 1) x (pX D p)) (gm_in (k + 1) y (pY D p)) k = (pX D p k, pY D p k, x, y) := gm_q4_l (gm_in_lt (by omega)) (gm_in_lt (by omega)) (by rw [e1]; exact gm_in_eq) (by rw [e1]; exact gm_in_eq)
  have s2 : gm_q4 (pN D p + 1) (gm_in (k + 1) x (pX D p)) (gm_in (k + 1) y (pY D p)) (k + 1) = (x, y, pX D p (gm_nx (pN D p) k), pY D p (gm_nx (pN D p) k)) := gm_q4_l gm_in_eq gm_in_eq (f1 _ _) (f1 _ _)
  refine h.set hD p0 p1 (by omega) fun i i0 i1 => ?_
  rw [n2] at i1
  by_cases a : i = k
  · subst a
    rw [s1]
    exact Or.inr (gm_cr_x l1.2 (Or.inr rfl))
  · by_cases b : i = k + 1
    · subst b
      rw [s2]
      exact Or.inr fun q j q0 q1 ne j0 j1 w => gm_cr_x l2.2 (Or.inr rfl) q j q0 q1 ne j0 j1 (gm_mt_ws w)
    · left
      by_cases c : i < k
      · refine ⟨i, i0, by omega, gm_q4_e (gm_in_lt (by omega)) (gm_in_lt (by omega)) ?_ ?_⟩
        · rw [gm_nx_l (by omega), gm_nx_l (by omega), gm_in_lt (by omega)]
        · rw [gm_nx_l (by omega), gm_nx_l (by omega), gm_in_lt (by omega)]
      · have f : ∀ f : Int → Int, ∀ z : Int, gm_in (k + 1) z f (gm_nx (pN D p + 1) i) = f (gm_nx (pN D p) (i - 1)) := by
          intro f z
          by_cases c : i + 1 < pN D p + 1
          · rw [gm_nx_l c, gm_nx_l (by omega), gm_in_gt (by omega)]
            congr 1
            omega
          · rw [gm_nx_e c, gm_nx_e (by omega), gm_in_lt (by omega)]
        exact ⟨i - 1, by omega, by omega, gm_q4_e (gm_in_gt (by omega)) (gm_in_gt (by omega)) (f _ _) (f _ _)⟩
theorem GX.toD {D : Int → Int} (hD : VD D) (h : GX D) {p k : Int} (p0 : 0 ≤ p) (p1 : p < D 3) (k0 : 0 ≤ k) (k1 : k < pN D p) (r : gm_rT D p k 0) : GX (gm_toD D p k) := by
  have v := (hD.2.2.2.2.2 p p0 p1).2.1
  obtain ⟨c0, c1⟩ := gm_rT_0 r
  have l := (gm_lr_cr (gm_rT_lr r)).2
  have n1 : gm_ns (pN D p) (pC D p) = pN D p := if_neg (by omega)
  have n2 : gm_ns (pN D p - 1) (pC D p) = pN D p - 1 := if_neg (by omega)
  let m := if 0 < k then k - 1 else pN D p - 2
  have hm : (0 < k ∧ m = k - 1) ∨ (k = 0 ∧ m = pN D p - 2) := by
    by_cases c : 0 < k
    · exact Or.inl ⟨c, if_pos c⟩
    · exact Or.inr ⟨by omega, if_neg c⟩
  generalize m = m at hm
  have fp : ∀ f : Int → Int, gm_ou k f m = f (gm_pv (pN D p) k) := by
    intro f
    unfold gm_pv
    rcases hm with ⟨a, b⟩ | ⟨a, b⟩
    · rw [if_pos a, gm_ou_lt (by omega), b]
    · rw [if_neg (by omega), gm_ou_ge (by omega), b]
      congr 1
      omega
  have fn : ∀ f : Int → Int, gm_ou k f (gm_nx (pN D p - 1) m) = f (gm_nx (pN D p) k) := by
    intro f
    rcases hm with ⟨a, b⟩ | ⟨a, b⟩
    · by_cases e : k + 1 < pN D p
      · rw [gm_nx_l (by omega), gm_nx_l e, gm_ou_ge (by omega), b]
        congr 1
        omega
      · rw [gm_nx_e (by omega), gm_nx_e e, gm_ou_lt (by omega)]
    · rw [gm_nx_e (by omega), gm_nx_l (by omega), gm_ou_ge (by omega), a]
  have sn := gm_q4_l (n := pN D p - 1) (i := m) (fp (pX D p)) (fp (pY D p)) (fn (pX D p)) (fn (pY D p))
  refine h.set hD p0 p1 (by omega) fun i i0 i1 => ?_
  rw [n2] at i1
  by_cases q : i = m
  · subst q
    rw [sn]
    exact Or.inr (gm_cr_x l (Or.inr rfl))
  · left
    by_cases c : i < k
    · have f : ∀ f : Int → Int, gm_ou k f (gm_nx (pN D p - 1) i) = f (gm_nx (pN D p) i) := by
        intro f
        rw [gm_nx_l (by omega), gm_nx_l (by omega), gm_ou_lt (by omega)]
      exact ⟨i, i0, by omega, gm_q4_e (gm_ou_lt c) (gm_ou_lt c) (f _) (f _)⟩
    · have f : ∀ f : Int → Int, gm_ou k f (gm_nx (pN D p - 1) i) = f (gm_nx (pN D p) (i + 1)) := by
        intro f
        by_cases e : i + 1 < pN D p - 1
        · rw [gm_nx_l e, gm_nx_l (by omega), gm_ou_ge (by omega)]
        · rw [gm_nx_e e, gm_nx_e (by omega), gm_ou_lt (by omega)]
      exact ⟨i + 1, by omega, by omega, gm_q4_e (gm_ou_ge (by omega)) (gm_ou_ge (by omega)) (f _) (f _)⟩
/-- what holds of the law's field at each time -/
def FX (D : Int → Int) : Prop := VD D ∧ DX D ∧ GV D ∧ GX D
theorem FX.adC {D : Int → Int} (h : FX D) {p x y : Int} (p0 : 0 ≤ p) (p1 : p < D 3) (hx : 0 ≤ x ∧ x ≤ D 0) (hy : 0 ≤ y ∧ y ≤ D 1) (r : gm_rC D p x y 0) : FX (gm_adC D p x y) :=
  ⟨gm_adC_vd h.1 p0 p1 (gm_rC_0 r).1 (gm_rC_0 r).2.1 hx hy, h.2.1.adC h.1 p0 p1 r, h.2.2.1.adC h.1 p0 p1 r, h.2.2.2.adC h.1 p0 p1 r⟩
theorem FX.clP {D : Int → Int} (h : FX D) {p : Int} (p0 : 0 ≤ p) (p1 : p < D 3) (r : gm_rL D p 0) : FX (gm_clP D p) :=
  ⟨gm_clP_vd h.1 p0 p1 (gm_rL_0 r).2, h.2.1.clP h.1 p0 p1, h.2.2.1.clP h.1 p0 p1 r, h.2.2.2.clP h.1 p0 p1 r⟩
theorem FX.bnD {D : Int → Int} (h : FX D) {p k x y : Int} (p0 : 0 ≤ p) (p1 : p < D 3) (k0 : 0 ≤ k) (k1 : k < pN D p) (hx : 0 ≤ x ∧ x ≤ D 0) (hy : 0 ≤ y ∧ y ≤ D 1) (r : gm_rB D p k x y 0) : FX (gm_bnD D p k x y) :=
  ⟨gm_bnD_vd h.1 p0 p1 (gm_rB_0 r).1 (gm_rB_0 r).2.1 k0 k1 hx hy, h.2.1.bnD h.1 p0 p1 k0 k1 r, h.2.2.1.bnD h.1 h.2.1.ve p0 p1 k0 k1 r, h.2.2.2.bnD h.1 p0 p1 k0 k1 r⟩
theorem FX.toD {D : Int → Int} (h : FX D) {p k : Int} (p0 : 0 ≤ p) (p1 : p < D 3) (k0 : 0 ≤ k) (k1 : k < pN D p) (r : gm_rT D p k 0) : FX (gm_toD D p k) :=
  ⟨gm_toD_vd h.1 p0 p1 (gm_rT_0 r).1 (gm_rT_0 r).2 k0 k1, h.2.1.toD h.1 p0 p1 k0 k1, h.2.2.1.toD h.1 p0 p1 k0 k1 r, h.2.2.2.toD h.1 p0 p1 k0 k1 r⟩
theorem FX.drP {D : Int → Int} (h : FX D) {p : Int} (p0 : 0 ≤ p) (p1 : p < D 3) : FX (gm_drP D p) :=
  ⟨gm_drP_vd h.1 p0 p1, (h.2.1.drP h.1 p0 p1).1, h.2.2.1.drP h.1 p0 p1, (h.2.1.drP h.1 p0 p1).2 h.2.2.2⟩
theorem FX.stP {D : Int → Int} (h : FX D) {o x y : Int} (h3 : D 3 < 6) (ho : 0 ≤ o ∧ o ≤ 3) (hx : 0 ≤ x ∧ x ≤ D 0) (hy : 0 ≤ y ∧ y ≤ D 1) (ht : ¬ gm_tk D x y) : FX (gm_stP D o x y) :=
  ⟨gm_stP_vd h.1 h3 ho hx hy, (h.2.1.stP h.1 ht).1, h.2.2.1.stP h.1, (h.2.1.stP h.1 ht).2 h.2.2.2⟩
theorem FX.addS {D : Int → Int} (h : FX D) {x y v : Int} (h2 : D 2 < 20) (h3 : D 3 = 0) (hx : 0 ≤ x ∧ x ≤ D 0) (hy : 0 ≤ y ∧ y ≤ D 1) (hv : 1 ≤ v ∧ v ≤ 99) : FX (gm_addS D x y v) := by
  have e : gm_addS D x y v 3 = D 3 := gm_addS_o (by omega) (by have := h.1.2.2.1; omega)
  exact ⟨gm_addS_vd h.1 h2 hx hy hv, DX.none (by omega), h.2.2.1.addS h.1 h2, GX.none (by omega)⟩
theorem FX.emp {x y : Int} (hx : 2 ≤ x ∧ x ≤ 30) (hy : 2 ≤ y ∧ y ≤ 30) : FX (gm_emp x y) :=
  ⟨gm_emp_vd hx hy, DX.none (Int.le_refl 0), GV.emp, GX.none (Int.le_refl 0)⟩
theorem FX.uq {D cm : Int → Int} (h : FX D) (hC : CMS D cm) : UQ D cm := UQ.of h.1 h.2.1 h.2.2.1 h.2.2.2 hC
