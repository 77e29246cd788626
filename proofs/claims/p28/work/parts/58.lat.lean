/-! Points of the field on a line; what stands in a line's way. -/
theorem gm_on_s {ax ay bx by' px py b s : Int} (hb : 0 < b) (hv : bx ≠ ax ∨ by' ≠ ay) (h1 : b * (px - ax) = s * (bx - ax)) (h2 : b * (py - ay) = s * (by' - ay)) : gm_on ax ay bx by' px py ↔ (0 ≤ s ∧ s ≤ b) := by
  obtain ⟨e1, e2, e3⟩ := gm_par (vx := bx - ax) (vy := by' - ay) hb (by omega) h1 h2
  rw [← e1]
  unfold gm_on
  have g1 : (ax - px) * (bx - px) + (ay - py) * (by' - py) = (px - ax) * (px - ax - (bx - ax)) + (py - ay) * (py - ay - (by' - ay)) := by grind
  rw [g1]
  refine ⟨fun q => q.1, fun q => ⟨q, ?_⟩⟩
  refine gm_z2 (b := b) (by omega) ?_
  grind
/-- a line's steps, and what one step is -/
def gm_gc (ax ay bx by' : Int) : Int := (Int.gcd (bx - ax) (by' - ay) : Int)
def gm_sx (ax ay bx by' n : Int) : Int := ax + Int.tdiv (bx - ax) (gm_gc ax ay bx by') * n
def gm_sy (ax ay bx by' n : Int) : Int := ay + Int.tdiv (by' - ay) (gm_gc ax ay bx by') * n
theorem gm_gd {ax ay bx by' : Int} (h : bx ≠ ax ∨ by' ≠ ay) : 0 < gm_gc ax ay bx by' ∧ ∃ d1 d2, bx - ax = gm_gc ax ay bx by' * d1 ∧ by' - ay = gm_gc ax ay bx by' * d2 ∧ Int.tdiv (bx - ax) (gm_gc ax ay bx by') = d1 ∧ Int.tdiv (by' - ay) (gm_gc ax ay bx by') = d2 := by
  obtain ⟨t, d1, d2, g0, e1, e2, -, -⟩ := wn_lat (dx := bx - ax) (dy := by' - ay) (u := 0) (v := 0) (by rw [Int.mul_zero, Int.mul_zero]) (by omega)
  unfold gm_gc
  refine ⟨g0, d1, d2, e1, e2, ?_, ?_⟩
  · generalize (Int.gcd (bx - ax) (by' - ay) : Int) = g at *
    rw [e1]; exact Int.mul_tdiv_cancel_left _ (by omega)
  · generalize (Int.gcd (bx - ax) (by' - ay) : Int) = g at *
    rw [e2]; exact Int.mul_tdiv_cancel_left _ (by omega)
theorem gm_st_e {ax ay bx by' n : Int} (h : bx ≠ ax ∨ by' ≠ ay) : gm_gc ax ay bx by' * (gm_sx ax ay bx by' n - ax) = n * (bx - ax) ∧ gm_gc ax ay bx by' * (gm_sy ax ay bx by' n - ay) = n * (by' - ay) := by
  obtain ⟨g0, d1, d2, e1, e2, e3, e4⟩ := gm_gd h
  unfold gm_sx gm_sy
  rw [e3, e4]
  generalize gm_gc ax ay bx by' = g at *
  constructor
  · rw [e1]; grind
  · rw [e2]; grind
theorem gm_lat_i {ax ay bx by' x y : Int} (h : bx ≠ ax ∨ by' ≠ ay) (hc : gm_on ax ay bx by' x y) : ∃ n, x = gm_sx ax ay bx by' n ∧ y = gm_sy ax ay bx by' n := by
  obtain ⟨t, d1, d2, g0, e1, e2, e3, e4⟩ := wn_lat (dx := bx - ax) (dy := by' - ay) (u := x - ax) (v := y - ay) hc.2 (by omega)
  obtain ⟨g0', c1, c2, f1, f2, f3, f4⟩ := gm_gd h
  refine ⟨t, ?_, ?_⟩
  · have : c1 = d1 := gm_z2 (b := gm_gc ax ay bx by') (by omega) (f1.symm.trans e1)
    unfold gm_sx
    rw [f3, this]
    have := Int.mul_comm t d1
    omega
  · have : c2 = d2 := gm_z2 (b := gm_gc ax ay bx by') (by omega) (f2.symm.trans e2)
    unfold gm_sy
    rw [f4, this]
    have := Int.mul_comm t d2
    omega
theorem gm_lat_on {ax ay bx by' x y : Int} (h : bx ≠ ax ∨ by' ≠ ay) : gm_on ax ay bx by' x y ↔ ∃ n, (0 ≤ n ∧ n ≤ gm_gc ax ay bx by') ∧ gm_sx ax ay bx by' n = x ∧ gm_sy ax ay bx by' n = y := by
  have g0 := (gm_gd h).1
  constructor
  · intro q
    obtain ⟨n, rfl, rfl⟩ := gm_lat_i h q
    have e := gm_st_e (n := n) h
    exact ⟨n, (gm_on_s g0 h e.1 e.2).mp q, rfl, rfl⟩
  · rintro ⟨n, hn, rfl, rfl⟩
    have e := gm_st_e (n := n) h
    exact (gm_on_s g0 h e.1 e.2).mpr hn
theorem gm_lat_wi {ax ay bx by' x y : Int} (h : bx ≠ ax ∨ by' ≠ ay) : gm_wi ax ay bx by' x y ↔ ∃ n, (0 < n ∧ n < gm_gc ax ay bx by') ∧ gm_sx ax ay bx by' n = x ∧ gm_sy ax ay bx by' n = y := by
  have g0 := (gm_gd h).1
  constructor
  · intro q
    obtain ⟨n, rfl, rfl⟩ := gm_lat_i h q.1
    have e := gm_st_e (n := n) h
    exact ⟨n, (gm_wi_s g0 h e.1 e.2).mp q, rfl, rfl⟩
  · rintro ⟨n, hn, rfl, rfl⟩
    have e := gm_st_e (n := n) h
    exact (gm_wi_s g0 h e.1 e.2).mpr hn
theorem gm_on_c {ax ay bx by' x y : Int} (h1 : am_c ax) (h2 : am_c ay) (h3 : am_c bx) (h4 : am_c by') (h : gm_on ax ay bx by' x y) : am_c x ∧ am_c y := by
  obtain ⟨-, b1, b2⟩ := gm_on_bx.mp h
  unfold am_c at *
  omega
theorem gm_gc_r {ax ay bx by' : Int} (h1 : am_c ax) (h2 : am_c ay) (h3 : am_c bx) (h4 : am_c by') : 0 ≤ gm_gc ax ay bx by' ∧ gm_gc ax ay bx by' ≤ 30 := by
  refine ⟨by unfold gm_gc; omega, ?_⟩
  have e1 := am_c30 h3 h1
  have e2 := am_c30 h4 h2
  unfold gm_gc
  have g1 := Int.gcd_dvd_left (a := bx - ax) (b := by' - ay)
  have g2 := Int.gcd_dvd_right (a := bx - ax) (b := by' - ay)
  generalize bx - ax = a at *
  generalize by' - ay = b at *
  by_cases ha : a = 0
  · by_cases hb : b = 0
    · subst ha; subst hb; simp
    · have := Int.le_of_dvd (a := (Int.gcd a b : Int)) (b := (b.natAbs : Int)) (by omega) (Int.dvd_natAbs.mpr g2)
      omega
  · have := Int.le_of_dvd (a := (Int.gcd a b : Int)) (b := (a.natAbs : Int)) (by omega) (Int.dvd_natAbs.mpr g1)
    omega
/-- a stone there; a corner there -/
def gm_stn (D : Int → Int) (x y : Int) : Prop := ∃ k, 0 ≤ k ∧ k < D 2 ∧ sX D k = x ∧ sY D k = y
def gm_crn (D : Int → Int) (x y : Int) : Prop := ∃ p, 0 ≤ p ∧ p < D 3 ∧ gm_hc (pN D p) (pX D p) (pY D p) x y
theorem gm_tk_sc {D : Int → Int} {x y : Int} : gm_tk D x y ↔ (gm_stn D x y ∨ gm_crn D x y) := Iff.rfl
/-- all corners are apart, and none is a stone -/
def DX (D : Int → Int) : Prop := (∀ p k q m, 0 ≤ p → p < D 3 → 0 ≤ k → k < pN D p → 0 ≤ q → q < D 3 → 0 ≤ m → m < pN D q → pX D p k = pX D q m → pY D p k = pY D q m → p = q ∧ k = m) ∧ ∀ s p k, 0 ≤ s → s < D 2 → 0 ≤ p → p < D 3 → 0 ≤ k → k < pN D p → ¬ (sX D s = pX D p k ∧ sY D s = pY D p k)
theorem DX.ve {D : Int → Int} (h : DX D) : VE D := fun p k m p0 p1 k0 km m1 q => by
  have := (h.1 p k p m p0 p1 k0 (by omega) p0 p1 (by omega) m1 q.1 q.2).2
  omega
/-- a point of a line is in its way: a stone, or a corner, but the one that goes -/
def gm_lk (D : Int → Int) (lp lc x y : Int) : Prop := gm_stn D x y ∨ (gm_crn D x y ∧ ¬ (0 ≤ lc ∧ pX D lp lc = x ∧ pY D lp lc = y))
theorem gm_line4 {D : Int → Int} {lp lc ax ay bx by' : Int} (hX : DX D) (h : bx ≠ ax ∨ by' ≠ ay) (hl : lc < 0 ∨ (0 ≤ lp ∧ lp < D 3 ∧ lc < pN D lp)) (s1 : ¬ gm_stn D ax ay) (s2 : ¬ gm_stn D bx by') :
    (∃ n, (0 < n ∧ n < gm_gc ax ay bx by') ∧ gm_lk D lp lc (gm_sx ax ay bx by' n) (gm_sy ax ay bx by' n)) ↔ (gm_bs D ax ay bx by' ∨ gm_bc D lp lc ax ay bx by') := by
  constructor
  · rintro ⟨n, hn, ⟨k, k0, k1, e1, e2⟩ | ⟨⟨p, p0, p1, k, k0, k1, e1, e2⟩, g⟩⟩
    · exact Or.inl ⟨k, k0, k1, ((gm_lat_wi h).mpr ⟨n, hn, e1.symm, e2.symm⟩).1⟩
    · refine Or.inr ⟨p, p0, p1, k, k0, k1, ?_, (gm_lat_wi h).mpr ⟨n, hn, e1.symm, e2.symm⟩⟩
      rintro ⟨rfl, rfl⟩
      exact g ⟨k0, e1, e2⟩
  · rintro (⟨k, k0, k1, q⟩ | ⟨p, p0, p1, k, k0, k1, q1, q2⟩)
    · have w : gm_wi ax ay bx by' (sX D k) (sY D k) := by
        refine ⟨q, ?_⟩
        rintro (⟨q1, q2⟩ | ⟨q1, q2⟩)
        · exact s1 ⟨k, k0, k1, q1, q2⟩
        · exact s2 ⟨k, k0, k1, q1, q2⟩
      obtain ⟨n, hn, e1, e2⟩ := (gm_lat_wi h).mp w
      exact ⟨n, hn, Or.inl ⟨k, k0, k1, e1.symm, e2.symm⟩⟩
    · obtain ⟨n, hn, e1, e2⟩ := (gm_lat_wi h).mp q2
      refine ⟨n, hn, Or.inr ⟨⟨p, p0, p1, k, k0, k1, e1.symm, e2.symm⟩, ?_⟩⟩
      rintro ⟨c0, c1, c2⟩
      rcases hl with hl | ⟨l0, l1, l2⟩
      · omega
      · have := hX.1 p k lp lc p0 p1 k0 k1 l0 l1 c0 l2 (by omega) (by omega)
        exact q1 this
theorem gm_cod_i {x y x' y' : Int} (h1 : am_c y) (h2 : am_c y') : 100 * x + y = 100 * x' + y' ↔ (x = x' ∧ y = y') := by
  unfold am_c at h1 h2
  omega
/-- one more -/
theorem gm_ex_s {P : Int → Prop} {i : Int} (h0 : 0 ≤ i) : (∃ k, 0 ≤ k ∧ k < i + 1 ∧ P k) ↔ ((∃ k, 0 ≤ k ∧ k < i ∧ P k) ∨ P i) := by
  constructor
  · rintro ⟨k, k0, k1, q⟩
    by_cases e : k = i
    · subst e; exact Or.inr q
    · exact Or.inl ⟨k, k0, by omega, q⟩
  · rintro (⟨k, k0, k1, q⟩ | q)
    · exact ⟨k, k0, by omega, q⟩
    · exact ⟨i, h0, by omega, q⟩
theorem gm_ex_0 {P : Int → Prop} : ¬ ∃ k, 0 ≤ k ∧ k < (0 : Int) ∧ P k := fun ⟨k, k0, k1, _⟩ => by omega
theorem am_orb_i {a b : Int} {P Q : Prop} (ha : a = 1 ↔ P) (hb : b = 1 ↔ Q) : (am_orb a b = 0 ∨ am_orb a b = 1) ∧ (am_orb a b = 1 ↔ (P ∨ Q)) := by
  unfold am_orb
  rw [← ha, ← hb]
  split
  · rename_i c; exact ⟨Or.inr rfl, ⟨fun _ => c, fun _ => rfl⟩⟩
  · rename_i c; exact ⟨Or.inl rfl, ⟨fun z => by omega, fun z => absurd z c⟩⟩
