/-! A board, as the reference lays it out in one row of numbers: what it says, when it is sound. -/
def sX (D : Int → Int) (k : Int) : Int := D (6 + 3 * k)
def sY (D : Int → Int) (k : Int) : Int := D (7 + 3 * k)
def sV (D : Int → Int) (k : Int) : Int := D (8 + 3 * k)
def pO (D : Int → Int) (p : Int) : Int := D (66 + 27 * p)
def pN (D : Int → Int) (p : Int) : Int := D (67 + 27 * p)
def pC (D : Int → Int) (p : Int) : Int := D (68 + 27 * p)
def pX (D : Int → Int) (p k : Int) : Int := D (69 + 27 * p + 2 * k)
def pY (D : Int → Int) (p k : Int) : Int := D (70 + 27 * p + 2 * k)
def VD (D : Int → Int) : Prop := (2 ≤ D 0 ∧ D 0 ≤ 30) ∧ (2 ≤ D 1 ∧ D 1 ≤ 30) ∧ (0 ≤ D 2 ∧ D 2 ≤ 20) ∧ (0 ≤ D 3 ∧ D 3 ≤ 6) ∧
  (∀ k, 0 ≤ k → k < D 2 → (0 ≤ sX D k ∧ sX D k ≤ D 0) ∧ (0 ≤ sY D k ∧ sY D k ≤ D 1) ∧ (1 ≤ sV D k ∧ sV D k ≤ 99)) ∧
  ∀ p, 0 ≤ p → p < D 3 → (0 ≤ pO D p ∧ pO D p ≤ 3) ∧ (1 ≤ pN D p ∧ pN D p ≤ 12) ∧ (pC D p = 0 ∨ (pC D p = 1 ∧ 3 ≤ pN D p)) ∧ ∀ k, 0 ≤ k → k < pN D p → (0 ≤ pX D p k ∧ pX D p k ≤ D 0) ∧ (0 ≤ pY D p k ∧ pY D p k ≤ D 1)
theorem VD.vc {D : Int → Int} (h : VD D) {p : Int} (p0 : 0 ≤ p) (p1 : p < D 3) : VC (pN D p) (pX D p) (pY D p) := by
  intro k k0 k1
  have := (h.2.2.2.2.2 p p0 p1).2.2.2 k k0 k1
  have := h.1
  have := h.2.1
  unfold am_c
  omega
/-- a point is inside of polygon p -/
def gm_inD (D : Int → Int) (p x y : Int) : Prop := ¬ gm_os (pN D p) (pN D p) (pX D p) (pY D p) x y ∧ gm_od (pN D p) (pX D p) (pY D p) x y (pN D p).toNat
def gm_arD (D : Int → Int) (p : Int) : Int := gm_abs (gm_ar (pN D p) (pX D p) (pY D p))
def gm_sP (D : Int → Int) (x y b m : Int) : Prop := pC D m = 1 ∧ gm_inD D m x y ∧ (b = -1 ∨ gm_arD D m < gm_arD D b)
/-- the first of the smallest of the first m polygons around a point -/
def gm_sma (D : Int → Int) (x y : Int) : Nat → Int → Prop
  | 0, z => z = -1
  | m + 1, z => ∃ b, gm_sma D x y m b ∧ ((gm_sP D x y b m ∧ z = m) ∨ (¬ gm_sP D x y b m ∧ z = b))
theorem gm_sma_one {D : Int → Int} {x y : Int} : ∀ {m : Nat} {z z' : Int}, gm_sma D x y m z → gm_sma D x y m z' → z = z'
  | 0, z, z', h, h' => h.trans h'.symm
  | m + 1, z, z', ⟨b, h1, h2⟩, ⟨b', h1', h2'⟩ => by
    cases gm_sma_one h1 h1'
    rcases h2 with ⟨q, e⟩ | ⟨q, e⟩ <;> rcases h2' with ⟨q', e'⟩ | ⟨q', e'⟩
    · exact e.trans e'.symm
    · exact absurd q q'
    · exact absurd q' q
    · exact e.trans e'.symm
theorem gm_sma_r {D : Int → Int} {x y : Int} : ∀ {m : Nat} {z : Int}, gm_sma D x y m z → -1 ≤ z ∧ z < m
  | 0, z, h => by cases h; decide
  | m + 1, z, ⟨b, h1, h2⟩ => by
    have := gm_sma_r h1
    rcases h2 with ⟨q, e⟩ | ⟨q, e⟩ <;> omega
theorem gm_sma_t {D : Int → Int} {x y i b : Int} (h0 : 0 ≤ i) (h : gm_sma D x y i.toNat b) (hp : gm_sP D x y b i) : gm_sma D x y (i + 1).toNat i := by
  obtain ⟨k, rfl⟩ := Int.eq_ofNat_of_zero_le h0
  rw [show ((k : Int) + 1).toNat = k + 1 by omega]
  exact ⟨b, h, Or.inl ⟨hp, rfl⟩⟩
theorem gm_sma_f {D : Int → Int} {x y i b : Int} (h0 : 0 ≤ i) (h : gm_sma D x y i.toNat b) (hp : ¬ gm_sP D x y b i) : gm_sma D x y (i + 1).toNat b := by
  obtain ⟨k, rfl⟩ := Int.eq_ofNat_of_zero_le h0
  rw [show ((k : Int) + 1).toNat = k + 1 by omega]
  exact ⟨b, h, Or.inr ⟨hp, rfl⟩⟩
/-- counts and sums over stones by a claim -/
def gm_if (c : Int → Int) (p : Int) (f : Int → Int) (k : Int) : Int := if c k = p then f k else 0
def gm_nf (c : Int → Int) (k : Int) : Int := if c k = -1 then 0 else 1
def gm_cc (D : Int → Int) (p : Int) : Int := if pC D p = 1 then 1 else 0
/-- a stone or a corner there; on a side -/
def gm_tk (D : Int → Int) (x y : Int) : Prop := (∃ k, 0 ≤ k ∧ k < D 2 ∧ sX D k = x ∧ sY D k = y) ∨ ∃ p, 0 ≤ p ∧ p < D 3 ∧ gm_hc (pN D p) (pX D p) (pY D p) x y
def gm_oD (D : Int → Int) (x y : Int) : Prop := ∃ p, 0 ≤ p ∧ p < D 3 ∧ gm_os (gm_ns (pN D p) (pC D p)) (pN D p) (pX D p) (pY D p) x y
def gm_oc (D : Int → Int) (x y : Int) : Prop := gm_tk D x y ∨ gm_oD D x y
