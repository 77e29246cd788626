/-! Closed polygons of a board: no two around one point have one area; so it does not matter which way they are gone through. -/
/-- sides of different polygons do not meet -/
def GX (D : Int → Int) : Prop := ∀ p q, 0 ≤ p → p < D 3 → 0 ≤ q → q < D 3 → p ≠ q → ∀ i j, 0 ≤ i → i < gm_ns (pN D p) (pC D p) → 0 ≤ j → j < gm_ns (pN D q) (pC D q) → ¬ gm_mq (gm_q4 (pN D p) (pX D p) (pY D p) i) (gm_q4 (pN D q) (pX D q) (pY D q) j)
theorem gm_sm_mn {f g e : Int → Int} : ∀ {m : Nat}, (∀ k : Int, 0 ≤ k → k < m → f k + g k ≤ e k) → gm_sm f m + gm_sm g m ≤ gm_sm e m
  | 0, _ => Int.le_refl _
  | m + 1, h => by
    have a := gm_sm_mn (m := m) fun k k0 k1 => h k k0 (by omega)
    have b := h m (by omega) (by omega)
    rw [gm_sm_l, gm_sm_l, gm_sm_l]
    omega
section TI
variable {D : Int → Int} {p q : Int}
def tX (D : Int → Int) (p k : Int) : Int := pX D p (k % pN D p)
def tY (D : Int → Int) (p k : Int) : Int := pY D p (k % pN D p)
/-- a closed polygon, its corners gone around -/
theorem ti_p (hD : VD D) (hE : VE D) (hG : GV D) (p0 : 0 ≤ p) (p1 : p < D 3) (hc : pC D p = 1) : WP (tX D p) (tY D p) (pN D p).toNat ∧ WA (tX D p) (tY D p) (pN D p).toNat ∧ WB (tX D p) (tY D p) := by
  have v := hD.2.2.2.2.2 p p0 p1
  have g := hG.q p0 p1
  rw [hc] at g
  exact gm_poly (by omega) (fun i j i0 i1 j0 j1 e => hE.ne p0 p1 i0 i1 j0 j1 e) g
theorem ti_n (hD : VD D) (p0 : 0 ≤ p) (p1 : p < D 3) (hc : pC D p = 1) : 3 ≤ pN D p ∧ pN D p ≤ 12 := by
  have v := hD.2.2.2.2.2 p p0 p1
  omega
theorem ti_ws (hD : VD D) (hX : DX D) (hGX : GX D) (p0 : 0 ≤ p) (p1 : p < D 3) (q0 : 0 ≤ q) (q1 : q < D 3) (e : p ≠ q) (hp : pC D p = 1) (hq : pC D q = 1) : WS (tX D p) (tY D p) (tX D q) (tY D q) := by
  intro i j
  have np := ti_n hD p0 p1 hp
  have nq := ti_n hD q0 q1 hq
  have a := gm_md1 (i := i) (n := pN D p) (by omega)
  have b := gm_md1 (i := j) (n := pN D q) (by omega)
  have ri : 0 ≤ i % pN D p ∧ i % pN D p < pN D p := ⟨Int.emod_nonneg i (by omega), Int.emod_lt_of_pos i (by omega)⟩
  have rj : 0 ≤ j % pN D q ∧ j % pN D q < pN D q := ⟨Int.emod_nonneg j (by omega), Int.emod_lt_of_pos j (by omega)⟩
  have nr : ∀ n i : Int, 3 ≤ n → 0 ≤ i → i < n → 0 ≤ gm_nx n i ∧ gm_nx n i < n ∧ gm_nx n i ≠ i := fun n i n3 i0 i1 => by unfold gm_nx; split <;> omega
  have ni := nr _ _ np.1 ri.1 ri.2
  have nj := nr _ _ nq.1 rj.1 rj.2
  unfold tX tY
  rw [a, b]
  generalize i % pN D p = i' at *
  generalize j % pN D q = j' at *
  have s1 : gm_ns (pN D p) (pC D p) = pN D p := by unfold gm_ns; rw [hp]; rfl
  have s2 : gm_ns (pN D q) (pC D q) = pN D q := by unfold gm_ns; rw [hq]; rfl
  have m := hGX p q p0 p1 q0 q1 e i' j' ri.1 (by omega) rj.1 (by omega)
  have dp := fun (k l : Int) (k0 : 0 ≤ k) (k1 : k < pN D p) (l0 : 0 ≤ l) (l1 : l < pN D q) (x : pX D p k = pX D q l) (y : pY D p k = pY D q l) => e (hX.1 p k q l p0 p1 k0 k1 q0 q1 l0 l1 x y).1
  refine wn_sep (hX.ve.ne p0 p1 ri.1 ri.2 ni.1 ni.2.1 (Ne.symm ni.2.2)) (hX.ve.ne q0 q1 rj.1 rj.2 nj.1 nj.2.1 (Ne.symm nj.2.2)) ?_ ?_ m
  · rintro (⟨x, y⟩ | ⟨x, y⟩)
    · exact dp _ _ ri.1 ri.2 rj.1 rj.2 x.symm y.symm
    · exact dp _ _ ni.1 ni.2.1 rj.1 rj.2 x.symm y.symm
  · rintro (⟨x, y⟩ | ⟨x, y⟩)
    · exact dp _ _ ri.1 ri.2 nj.1 nj.2.1 x.symm y.symm
    · exact dp _ _ ni.1 ni.2.1 nj.1 nj.2.1 x.symm y.symm
theorem ti_od (hD : VD D) (hE : VE D) (hG : GV D) (p0 : 0 ≤ p) (p1 : p < D 3) (hc : pC D p = 1) {x y : Int} : gm_od (pN D p) (pX D p) (pY D p) x y (pN D p).toNat ↔ wn_W (tX D p) (tY D p) (pN D p).toNat x y ≠ 0 := by
  obtain ⟨hP, hA, hB⟩ := ti_p hD hE hG p0 p1 hc
  have n := ti_n hD p0 p1 hc
  have o := gm_odW n.1 (xs := pX D p) (ys := pY D p) (x := x) (y := y)
  have wi := wn_in hP hA hB (by omega) x y
  refine o.trans ?_
  show wn_W (tX D p) (tY D p) (pN D p).toNat x y % 2 = 1 ↔ _
  omega
theorem ti_bo (hD : VD D) (hE : VE D) (hG : GV D) (p0 : 0 ≤ p) (p1 : p < D 3) (hc : pC D p = 1) : 3 ≤ gm_bo (pN D p) (pX D p) (pY D p) := by
  have n := ti_n hD p0 p1 hc
  have : ∀ m : Nat, (m : Int) ≤ pN D p → (m : Int) ≤ gm_sm (gm_st (pN D p) (pX D p) (pY D p)) m := by
    intro m
    induction m with
    | zero => intro _; exact Int.le_refl 0
    | succ m ih =>
      intro h
      have ih := ih (by omega)
      have r := gm_nx_r (n := pN D p) (k := m) (by omega) (by omega)
      have ne : (m : Int) ≠ gm_nx (pN D p) m := by unfold gm_nx; split <;> omega
      have w := hE.ne p0 p1 (by omega) (by omega) r.1 r.2 ne
      have g : 0 < Int.gcd (pX D p (gm_nx (pN D p) m) - pX D p m) (pY D p (gm_nx (pN D p) m) - pY D p m) := Nat.pos_of_ne_zero fun q => by
        have := Int.gcd_eq_zero_iff.mp q
        omega
      rw [gm_sm_l]
      show _ ≤ _ + (Int.gcd (pX D p (gm_nx (pN D p) m) - pX D p m) (pY D p (gm_nx (pN D p) m) - pY D p m) : Int)
      omega
  have := this (pN D p).toNat (by omega)
  unfold gm_bo
  omega
theorem ti_k {n : Nat} {X Y : Int → Int} {x y : Int} (h : wn_B X Y n x y) : ∃ k : Nat, gm_on (X k) (Y k) (X (k + 1)) (Y (k + 1)) x y := by
  obtain ⟨k, k0, -, a⟩ := h
  obtain ⟨l, rfl⟩ := Int.eq_ofNat_of_zero_le k0
  exact ⟨l, a⟩
/-- one lies within the other: it is smaller -/
theorem ti_1 (hD : VD D) (hX : DX D) (hG : GV D) (hGX : GX D) (p0 : 0 ≤ p) (p1 : p < D 3) (q0 : 0 ≤ q) (q1 : q < D 3) (e : p ≠ q) (hp : pC D p = 1) (hq : pC D q = 1) (h1 : wn_W (tX D q) (tY D q) (pN D q).toNat (tX D p 0) (tY D p 0) ≠ 0) (h2 : wn_W (tX D p) (tY D p) (pN D p).toNat (tX D q 0) (tY D q 0) = 0) : gm_arD D p < gm_arD D q := by
  have np := ti_n hD p0 p1 hp
  have nq := ti_n hD q0 q1 hq
  obtain ⟨hP, hA, hB⟩ := ti_p hD hX.ve hG p0 p1 hp
  obtain ⟨hP', hA', hB'⟩ := ti_p hD hX.ve hG q0 q1 hq
  have S := ti_ws hD hX hGX p0 p1 q0 q1 e hp hq
  have ip : ∀ x y, gm_os (pN D p) (pN D p) (pX D p) (pY D p) x y ↔ wn_B (tX D p) (tY D p) (pN D p).toNat x y := fun x y => (gm_onB np.1).symm
  have iq : ∀ x y, gm_os (pN D q) (pN D q) (pX D q) (pY D q) x y ↔ wn_B (tX D q) (tY D q) (pN D q).toNat x y := fun x y => (gm_onB nq.1).symm
  have key : ∀ x y, (gm_si 1 (pN D p) (pX D p) (pY D p) x y ∨ gm_si 2 (pN D p) (pX D p) (pY D p) x y) → gm_si 2 (pN D q) (pX D q) (pY D q) x y := by
    intro x y h
    have hw : ¬ wn_B (tX D q) (tY D q) (pN D q).toNat x y ∧ wn_W (tX D q) (tY D q) (pN D q).toNat x y ≠ 0 := by
      rcases h with h | h
      · have o : wn_B (tX D p) (tY D p) (pN D p).toNat x y := by
          rcases h with ⟨-, a⟩ | ⟨a, -⟩ | ⟨a, -⟩
          · exact (ip x y).mp a
          · omega
          · omega
        obtain ⟨k, hk⟩ := ti_k o
        refine ⟨fun b => ?_, ?_⟩
        · obtain ⟨j, hj⟩ := ti_k b
          exact nz_d hB hB' S hk hj
        · rw [nz_o hP' hB S hk]; exact h1
      · have o : wn_W (tX D p) (tY D p) (pN D p).toNat x y ≠ 0 := by
          rcases h with ⟨a, -⟩ | ⟨-, -, a⟩ | ⟨a, -⟩
          · omega
          · exact (ti_od hD hX.ve hG p0 p1 hp).mp a
          · omega
        refine ⟨fun b => ?_, fun z => ?_⟩
        · obtain ⟨j, hj⟩ := ti_k b
          exact o ((nz_o hP hB' S.sy hj).trans h2)
        · rcases nz_g hP hP' S o with w | w
          · exact h1 (w.symm.trans z)
          · exact o (w.trans h2)
    exact Or.inr (Or.inl ⟨rfl, fun b => hw.1 ((iq x y).mp b), (ti_od hD hX.ve hG q0 q1 hq).mpr hw.2⟩)
  have le : gm_ca D p 1 + gm_ca D p 2 ≤ gm_ca D q 2 := by
    refine gm_sm_mn fun x _ _ => gm_sm_mn fun y _ _ => ?_
    unfold gm_c1
    by_cases a : gm_si 1 (pN D p) (pX D p) (pY D p) x y
    · have b : ¬ gm_si 2 (pN D p) (pX D p) (pY D p) x y := fun b => absurd (gm_si_one a b) (by decide)
      rw [gm_ite_t a, gm_ite_f b, gm_ite_t (key x y (Or.inl a))]
      decide
    · by_cases b : gm_si 2 (pN D p) (pX D p) (pY D p) x y
      · rw [gm_ite_f a, gm_ite_t b, gm_ite_t (key x y (Or.inr b))]
        decide
      · rw [gm_ite_f a, gm_ite_f b]
        by_cases c : gm_si 2 (pN D q) (pX D q) (pY D q) x y
        · rw [gm_ite_t c]; decide
        · rw [gm_ite_f c]; decide
  have u := gm_pick_D hD hX.ve hG p0 p1 hp
  have v := gm_pick_D hD hX.ve hG q0 q1 hq
  have b1 := ti_bo hD hX.ve hG p0 p1 hp
  have b2 := ti_bo hD hX.ve hG q0 q1 hq
  omega
theorem ti_2 (hD : VD D) (hX : DX D) (hG : GV D) (hGX : GX D) (p0 : 0 ≤ p) (p1 : p < D 3) (q0 : 0 ≤ q) (q1 : q < D 3) (e : p ≠ q) {x y : Int} (hp : gm_cnd D x y p) (hq : gm_cnd D x y q) : gm_arD D p ≠ gm_arD D q := by
  have np := ti_n hD p0 p1 hp.1
  have nq := ti_n hD q0 q1 hq.1
  obtain ⟨hP, hA, hB⟩ := ti_p hD hX.ve hG p0 p1 hp.1
  obtain ⟨hP', hA', hB'⟩ := ti_p hD hX.ve hG q0 q1 hq.1
  have S := ti_ws hD hX hGX p0 p1 q0 q1 e hp.1 hq.1
  have a := (ti_od hD hX.ve hG p0 p1 hp.1).mp hp.2.2
  have b := (ti_od hD hX.ve hG q0 q1 hq.1).mp hq.2.2
  have n := nz_2 hP hP' (by omega) (by omega) S
  have g := nz_g hP hP' S a
  by_cases z : wn_W (tX D q) (tY D q) (pN D q).toNat (tX D p 0) (tY D p 0) = 0
  · have z2 : wn_W (tX D p) (tY D p) (pN D p).toNat (tX D q 0) (tY D q 0) ≠ 0 := fun y => by
      rcases g with g | g
      · exact b (g.trans z)
      · exact a (g.trans y)
    have := ti_1 hD hX hG hGX q0 q1 p0 p1 (Ne.symm e) hq.1 hp.1 z2 z
    omega
  · have := ti_1 hD hX hG hGX p0 p1 q0 q1 e hp.1 hq.1 z (n.resolve_left z)
    omega
end TI
/-- what the class finds, going up -/
theorem gm_sma_i {D : Int → Int} {x y : Int} : ∀ {m : Nat} {z : Int}, gm_sma D x y m z → (z = -1 ∧ ∀ p : Int, 0 ≤ p → p < m → ¬ gm_cnd D x y p) ∨ ((0 ≤ z ∧ z < m) ∧ gm_cnd D x y z ∧ ∀ p : Int, 0 ≤ p → p < m → gm_cnd D x y p → gm_arD D z ≤ gm_arD D p)
  | 0, z, h => Or.inl ⟨h, fun p p0 p1 => by omega⟩
  | m + 1, z, ⟨b, h1, h2⟩ => by
    have ih := gm_sma_i h1
    have k : ∀ p : Int, p < ((m + 1 : Nat) : Int) → p = m ∨ p < m := fun p h => by omega
    rcases h2 with ⟨⟨c1, c2, c3⟩, rfl⟩ | ⟨q, rfl⟩
    · right
      refine ⟨by omega, ⟨c1, c2⟩, fun p p0 p1 w => ?_⟩
      rcases k p p1 with rfl | p1
      · exact Int.le_refl _
      · rcases ih with ⟨i1, i2⟩ | ⟨i0, i1, i2⟩
        · exact absurd w (i2 p p0 p1)
        · have := i2 p p0 p1 w
          omega
    · rcases ih with ⟨i1, i2⟩ | ⟨i0, i1, i2⟩
      · refine Or.inl ⟨i1, fun p p0 p1 w => ?_⟩
        rcases k p p1 with rfl | p1
        · exact q ⟨w.1, w.2, Or.inl i1⟩
        · exact i2 p p0 p1 w
      · refine Or.inr ⟨by omega, i1, fun p p0 p1 w => ?_⟩
        rcases k p p1 with rfl | p1
        · exact Int.not_lt.mp fun l => q ⟨w.1, w.2, Or.inr l⟩
        · exact i2 p p0 p1 w
/-- both find the same -/
theorem UQ.of {D cm : Int → Int} (hD : VD D) (hX : DX D) (hG : GV D) (hGX : GX D) (hC : CMS D cm) : UQ D cm := by
  intro k z k0 k1 h
  have c := gm_sma_i (hC k k0 k1).1
  have e : ((D 3).toNat : Int) = D 3 := by have := hD.2.2.2.1; omega
  rw [e] at c
  rcases h with ⟨z1, h⟩ | ⟨⟨r1, r2⟩, h1, h2⟩
  · rcases c with ⟨c1, c2⟩ | ⟨⟨s1, s2⟩, c1, c2⟩
    · omega
    · exact absurd c1 (h _ (by omega) s2)
  · rcases c with ⟨c1, c2⟩ | ⟨⟨s1, s2⟩, c1, c2⟩
    · exact absurd h1 (c2 z (by omega) r2)
    · refine Decidable.byContradiction fun ne => ?_
      have a := h2 _ (by omega) s2 c1
      have b := c2 z (by omega) r2 h1
      exact ti_2 hD hX hG hGX (by omega) r2 s1 s2 ne h1 c1 (by omega)
