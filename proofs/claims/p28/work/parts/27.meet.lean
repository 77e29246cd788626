/-! Lines that meet (no machine here). -/
theorem gm_sq (a : Int) : 0 ≤ a * a := by
  rcases Int.le_total 0 a with h | h
  · exact Int.mul_nonneg h h
  · exact Int.mul_nonneg_of_nonpos_of_nonpos h h
theorem gm_sq0 {a : Int} (h : a ≠ 0) : 0 < a * a := by
  have := gm_sq a
  have h2 : a * a ≠ 0 := fun e => by rcases Int.mul_eq_zero.mp e with q | q <;> exact h q
  omega
theorem gm_nn {a b : Int} (h : a ≠ 0 ∨ b ≠ 0) : 0 < a * a + b * b := by
  have h1 := gm_sq a
  have h2 := gm_sq b
  rcases h with h | h
  · have := gm_sq0 h; omega
  · have := gm_sq0 h; omega
/-- a point on a line is between its ends, both ways -/
theorem gm_prod {p q r s : Int} (e : p * s = q * r) (h : p * r + q * s ≤ 0) : p * r ≤ 0 ∧ q * s ≤ 0 := by
  have k : (p * r) * (q * s) = (p * s) * (p * s) := by grind
  have k2 := gm_sq (p * s)
  constructor
  · refine Int.not_lt.mp fun h1 => ?_
    have h2 : q * s < 0 := by omega
    have := Int.mul_neg_of_pos_of_neg h1 h2
    omega
  · refine Int.not_lt.mp fun h1 => ?_
    have h2 : p * r < 0 := by omega
    have := Int.mul_neg_of_neg_of_pos h2 h1
    omega
theorem gm_btw {a b p : Int} : (a - p) * (b - p) ≤ 0 ↔ ((a ≤ p ∧ p ≤ b) ∨ (b ≤ p ∧ p ≤ a)) := by
  constructor
  · intro h
    rcases Int.lt_trichotomy a p with h1 | h1 | h1 <;> rcases Int.lt_trichotomy b p with h2 | h2 | h2
    · have := Int.mul_pos_of_neg_of_neg (show a - p < 0 by omega) (show b - p < 0 by omega); omega
    · omega
    · omega
    · omega
    · omega
    · omega
    · omega
    · omega
    · have := Int.mul_pos (show 0 < a - p by omega) (show 0 < b - p by omega); omega
  · rintro (⟨h1, h2⟩ | ⟨h1, h2⟩)
    · exact Int.mul_nonpos_of_nonpos_of_nonneg (by omega) (by omega)
    · exact Int.mul_nonpos_of_nonneg_of_nonpos (by omega) (by omega)
theorem gm_on_bx {ax ay bx by' px py : Int} : gm_on ax ay bx by' px py ↔ gm_turn ax ay bx by' px py = 0 ∧ ((ax ≤ px ∧ px ≤ bx) ∨ (bx ≤ px ∧ px ≤ ax)) ∧ ((ay ≤ py ∧ py ≤ by') ∨ (by' ≤ py ∧ py ≤ ay)) := by
  unfold gm_on gm_turn
  rw [← gm_btw, ← gm_btw]
  constructor
  · rintro ⟨h1, h2⟩
    have := gm_prod (p := ax - px) (q := ay - py) (r := bx - px) (s := by' - py) (by grind) h1
    omega
  · rintro ⟨h1, h2, h3⟩
    omega
/-- an end; on the line but no end; to both sides; what the reference calls met -/
def gm_we (ax ay bx by' px py : Int) : Prop := (px = ax ∧ py = ay) ∨ (px = bx ∧ py = by')
def gm_wi (ax ay bx by' px py : Int) : Prop := gm_on ax ay bx by' px py ∧ ¬ gm_we ax ay bx by' px py
def gm_ap (c d : Int) : Prop := (c < 0 ∧ 0 < d) ∨ (0 < c ∧ d < 0)
def gm_mt (ax ay bx by' cx cy dx dy : Int) : Prop := (gm_ap (gm_turn ax ay bx by' cx cy) (gm_turn ax ay bx by' dx dy) ∧ gm_ap (gm_turn cx cy dx dy ax ay) (gm_turn cx cy dx dy bx by')) ∨ gm_wi ax ay bx by' cx cy ∨ gm_wi ax ay bx by' dx dy ∨ gm_wi cx cy dx dy ax ay ∨ gm_wi cx cy dx dy bx by' ∨ ((ax = cx ∧ ay = cy ∧ bx = dx ∧ by' = dy) ∨ (ax = dx ∧ ay = dy ∧ bx = cx ∧ by' = cy))
/-- from S to T and from S to O go one way -/
def gm_al (sx sy tx ty ox oy : Int) : Prop := (tx - sx) * (oy - sy) = (ty - sy) * (ox - sx) ∧ 0 < (tx - sx) * (ox - sx) + (ty - sy) * (oy - sy)
theorem gm_al0 {p q r s : Int} (h : p * s = q * r) (h1 : 0 < p * r + q * s) : (r * r + s * s ≤ p * r + q * s) ∨ (p * p + q * q ≤ p * r + q * s) := by
  refine Decidable.byContradiction fun hh => ?_
  have h2 : p * r + q * s < r * r + s * s := by omega
  have h3 : p * r + q * s < p * p + q * q := by omega
  have k : (p * r + q * s) * (p * r + q * s) = (r * r + s * s) * (p * p + q * q) := by grind
  generalize p * r + q * s = z at *
  generalize r * r + s * s = x at *
  generalize p * p + q * q = y at *
  have a1 : 0 < (x - z) * y := Int.mul_pos (by omega) (by omega)
  have a2 : 0 < z * (y - z) := Int.mul_pos (by omega) (by omega)
  grind
theorem gm_mt_al {ax ay bx by' dx dy : Int} (hb : bx ≠ ax ∨ by' ≠ ay) (hd : dx ≠ ax ∨ dy ≠ ay) : gm_mt ax ay bx by' ax ay dx dy ↔ gm_al ax ay bx by' dx dy := by
  constructor
  · rintro (⟨h, -⟩ | ⟨-, h⟩ | ⟨⟨h1, h2⟩, h⟩ | ⟨-, h⟩ | ⟨⟨h1, h2⟩, h⟩ | h)
    · unfold gm_ap gm_turn at h; rw [show (bx - ax) * (ay - ay) - (by' - ay) * (ax - ax) = 0 by grind] at h; omega
    · exact absurd (Or.inl ⟨rfl, rfl⟩) h
    · refine ⟨h2, ?_⟩
      have := gm_nn (a := dx - ax) (b := dy - ay) (by omega)
      grind
    · exact absurd (Or.inl ⟨rfl, rfl⟩) h
    · refine ⟨by grind, ?_⟩
      have := gm_nn (a := bx - ax) (b := by' - ay) (by omega)
      grind
    · have := gm_nn (a := bx - ax) (b := by' - ay) (by omega)
      rcases h with ⟨-, -, rfl, rfl⟩ | ⟨h, h2, -⟩
      · exact ⟨Int.mul_comm _ _, this⟩
      · omega
  · rintro ⟨h1, h2⟩
    by_cases e : bx = dx ∧ by' = dy
    · exact Or.inr (Or.inr (Or.inr (Or.inr (Or.inr (Or.inl ⟨rfl, rfl, e.1, e.2⟩)))))
    · rcases gm_al0 h1 h2 with h3 | h3
      · exact Or.inr (Or.inr (Or.inl ⟨⟨by grind, by grind⟩, by unfold gm_we; omega⟩))
      · exact Or.inr (Or.inr (Or.inr (Or.inr (Or.inl ⟨⟨by grind, by grind⟩, by unfold gm_we; omega⟩))))
/-- turned about -/
theorem gm_mt_sw {ax ay bx by' cx cy dx dy : Int} : gm_mt ax ay bx by' cx cy dx dy → gm_mt ax ay bx by' dx dy cx cy := by
  have t : ∀ px py, gm_turn dx dy cx cy px py = - gm_turn cx cy dx dy px py := by intro px py; unfold gm_turn; grind
  have w : ∀ px py, gm_wi cx cy dx dy px py → gm_wi dx dy cx cy px py := by
    rintro px py ⟨⟨h1, h2⟩, h⟩
    exact ⟨⟨by grind, by grind⟩, by unfold gm_we at *; omega⟩
  rintro (⟨h, h2⟩ | h | h | h | h | h)
  · refine Or.inl ⟨?_, ?_⟩
    · unfold gm_ap at *; omega
    · rw [t, t]; unfold gm_ap at *; omega
  · exact Or.inr (Or.inr (Or.inl h))
  · exact Or.inr (Or.inl h)
  · exact Or.inr (Or.inr (Or.inr (Or.inl (w _ _ h))))
  · exact Or.inr (Or.inr (Or.inr (Or.inr (Or.inl (w _ _ h)))))
  · exact Or.inr (Or.inr (Or.inr (Or.inr (Or.inr (by omega)))))
theorem gm_mt_ws {ax ay bx by' cx cy dx dy : Int} : gm_mt ax ay bx by' cx cy dx dy → gm_mt bx by' ax ay cx cy dx dy := by
  have t : ∀ px py, gm_turn bx by' ax ay px py = - gm_turn ax ay bx by' px py := by intro px py; unfold gm_turn; grind
  have w : ∀ px py, gm_wi ax ay bx by' px py → gm_wi bx by' ax ay px py := by
    rintro px py ⟨⟨h1, h2⟩, h⟩
    exact ⟨⟨by grind, by grind⟩, by unfold gm_we at *; omega⟩
  rintro (⟨h, h2⟩ | h | h | h | h | h)
  · refine Or.inl ⟨?_, ?_⟩
    · rw [t, t]; unfold gm_ap at *; omega
    · unfold gm_ap at *; omega
  · exact Or.inr (Or.inl (w _ _ h))
  · exact Or.inr (Or.inr (Or.inl (w _ _ h)))
  · exact Or.inr (Or.inr (Or.inr (Or.inr (Or.inl h))))
  · exact Or.inr (Or.inr (Or.inr (Or.inl h)))
  · exact Or.inr (Or.inr (Or.inr (Or.inr (Or.inr (by omega)))))
/-- no ends in common: boxes and sides say it -/
def gm_lo (a b : Int) : Int := if b < a then b else a
def gm_hi (a b : Int) : Int := if a < b then b else a
def gm_bp (a b c d : Int) : Prop := gm_hi a b < gm_lo c d ∨ gm_hi c d < gm_lo a b
theorem gm_pm {c d : Int} : c * d < 0 ↔ gm_ap c d := by
  unfold gm_ap
  constructor
  · intro h
    rcases Int.lt_trichotomy c 0 with h1 | h1 | h1 <;> rcases Int.lt_trichotomy d 0 with h2 | h2 | h2
    · have := Int.mul_pos_of_neg_of_neg h1 h2; omega
    · rw [h2] at h; omega
    · omega
    · rw [h1] at h; omega
    · rw [h1] at h; omega
    · rw [h1] at h; omega
    · omega
    · rw [h2] at h; omega
    · have := Int.mul_pos h1 h2; omega
  · rintro (⟨h1, h2⟩ | ⟨h1, h2⟩)
    · exact Int.mul_neg_of_neg_of_pos h1 h2
    · exact Int.mul_neg_of_pos_of_neg h1 h2
/-- weights of two signs: no gap between -/
theorem gm_gap {a b c d A B C D : Int} (h1 : gm_ap c d) (h2 : gm_ap a b) (e : (c * D - d * C) * (a - b) = (a * B - b * A) * (c - d)) : ¬ gm_bp A B C D := by
  have key : ∀ {a b c d A B C D : Int}, 0 < c → d < 0 → 0 < a → b < 0 → (c * D - d * C) * (a - b) = (a * B - b * A) * (c - d) → gm_hi A B < gm_lo C D → False := by
    intro a b c d A B C D c0 d0 a0 b0 e h
    have m1 : gm_lo C D ≤ C ∧ gm_lo C D ≤ D := by unfold gm_lo; split <;> omega
    have m2 : A ≤ gm_hi A B ∧ B ≤ gm_hi A B := by unfold gm_hi; split <;> omega
    generalize gm_lo C D = m at *
    generalize gm_hi A B = M at *
    have k1 : 0 ≤ c * (D - m) := Int.mul_nonneg (by omega) (by omega)
    have k2 : 0 ≤ (-d) * (C - m) := Int.mul_nonneg (by omega) (by omega)
    have k3 : 0 ≤ a * (M - B) := Int.mul_nonneg (by omega) (by omega)
    have k4 : 0 ≤ (-b) * (M - A) := Int.mul_nonneg (by omega) (by omega)
    have k5 : 0 ≤ (c * (D - m) + (-d) * (C - m)) * (a - b) := Int.mul_nonneg (by omega) (by omega)
    have k6 : 0 ≤ (a * (M - B) + (-b) * (M - A)) * (c - d) := Int.mul_nonneg (by omega) (by omega)
    have k7 : 0 < (m - M) * ((c - d) * (a - b)) := Int.mul_pos (by omega) (Int.mul_pos (by omega) (by omega))
    grind
  rintro (h | h)
  · rcases h1 with ⟨x, y⟩ | ⟨x, y⟩ <;> rcases h2 with ⟨z, t⟩ | ⟨z, t⟩
    · exact key (a := -a) (b := -b) (c := -c) (d := -d) (by omega) (by omega) (by omega) (by omega) (by grind) h
    · exact key (a := a) (b := b) (c := -c) (d := -d) (by omega) (by omega) (by omega) (by omega) (by grind) h
    · exact key (a := -a) (b := -b) (c := c) (d := d) (by omega) (by omega) (by omega) (by omega) (by grind) h
    · exact key x y z t e h
  · rcases h1 with ⟨x, y⟩ | ⟨x, y⟩ <;> rcases h2 with ⟨z, t⟩ | ⟨z, t⟩
    · exact key (a := -c) (b := -d) (c := -a) (d := -b) (by omega) (by omega) (by omega) (by omega) (by grind) h
    · exact key (a := -c) (b := -d) (c := a) (d := b) (by omega) (by omega) (by omega) (by omega) (by grind) h
    · exact key (a := c) (b := d) (c := -a) (d := -b) (by omega) (by omega) (by omega) (by omega) (by grind) h
    · exact key (a := c) (b := d) (c := a) (d := b) (by omega) (by omega) (by omega) (by omega) (by grind) h
theorem gm_on_nb {ax ay bx by' px py : Int} (h : gm_on ax ay bx by' px py) {cx cy dx dy : Int} (hp : (px = cx ∧ py = cy) ∨ (px = dx ∧ py = dy)) : ¬ (gm_bp ax bx cx dx ∨ gm_bp ay by' cy dy) := by
  obtain ⟨-, h1, h2⟩ := gm_on_bx.mp h
  unfold gm_bp gm_lo gm_hi
  split <;> split <;> split <;> split <;> omega
theorem gm_bp_sw {a b c d : Int} : gm_bp a b c d ↔ gm_bp c d a b := by unfold gm_bp; exact Or.comm
/-- C on the line AB says that A and B are not to one side of CD -/
theorem gm_on_ab {ax ay bx by' cx cy dx dy : Int} (h : gm_on ax ay bx by' cx cy) (hab : bx ≠ ax ∨ by' ≠ ay) : gm_turn cx cy dx dy ax ay * gm_turn cx cy dx dy bx by' ≤ 0 := by
  obtain ⟨h1, h2⟩ := h
  have w := gm_nn (a := bx - ax) (b := by' - ay) (by omega)
  have k : gm_turn cx cy dx dy ax ay * gm_turn cx cy dx dy bx by' * ((bx - ax) * (bx - ax) + (by' - ay) * (by' - ay)) = ((ax - cx) * (bx - cx) + (ay - cy) * (by' - cy)) * (((dx - cx) * (by' - ay) - (dy - cy) * (bx - ax)) * ((dx - cx) * (by' - ay) - (dy - cy) * (bx - ax))) := by unfold gm_turn; grind
  refine Int.not_lt.mp fun hh => ?_
  have k1 := Int.mul_pos hh w
  have k2 := Int.mul_nonneg (show 0 ≤ -((ax - cx) * (bx - cx) + (ay - cy) * (by' - cy)) by omega) (gm_sq ((dx - cx) * (by' - ay) - (dy - cy) * (bx - ax)))
  rw [Int.neg_mul] at k2
  omega
theorem gm_ab_on {ax ay bx by' cx cy dx dy : Int} (h : gm_turn ax ay bx by' cx cy = 0) (hd : gm_turn ax ay bx by' dx dy ≠ 0) (hs : gm_turn cx cy dx dy ax ay * gm_turn cx cy dx dy bx by' ≤ 0) (hab : bx ≠ ax ∨ by' ≠ ay) : gm_on ax ay bx by' cx cy := by
  have w := gm_nn (a := bx - ax) (b := by' - ay) (by omega)
  have k : gm_turn cx cy dx dy ax ay * gm_turn cx cy dx dy bx by' * ((bx - ax) * (bx - ax) + (by' - ay) * (by' - ay)) = ((ax - cx) * (bx - cx) + (ay - cy) * (by' - cy)) * (((dx - cx) * (by' - ay) - (dy - cy) * (bx - ax)) * ((dx - cx) * (by' - ay) - (dy - cy) * (bx - ax))) := by unfold gm_turn at *; grind
  have k0 : ((dx - cx) * (by' - ay) - (dy - cy) * (bx - ax)) = - gm_turn ax ay bx by' dx dy := by unfold gm_turn at *; grind
  have k1 : 0 < ((dx - cx) * (by' - ay) - (dy - cy) * (bx - ax)) * ((dx - cx) * (by' - ay) - (dy - cy) * (bx - ax)) := gm_sq0 (by omega)
  refine ⟨Int.not_lt.mp fun hh => ?_, by unfold gm_turn at h; omega⟩
  have k2 := Int.mul_pos hh k1
  have k3 := Int.mul_nonneg (show 0 ≤ -(gm_turn cx cy dx dy ax ay * gm_turn cx cy dx dy bx by') by omega) (Int.le_of_lt w)
  rw [Int.neg_mul] at k3
  omega
theorem gm_mt_nb {ax ay bx by' cx cy dx dy : Int} (hab : bx ≠ ax ∨ by' ≠ ay) (hcd : dx ≠ cx ∨ dy ≠ cy) (hc : ¬ gm_we ax ay bx by' cx cy) (hd : ¬ gm_we ax ay bx by' dx dy) : gm_mt ax ay bx by' cx cy dx dy ↔ ¬ (gm_bp ax bx cx dx ∨ gm_bp ay by' cy dy) ∧ gm_turn ax ay bx by' cx cy * gm_turn ax ay bx by' dx dy ≤ 0 ∧ gm_turn cx cy dx dy ax ay * gm_turn cx cy dx dy bx by' ≤ 0 := by
  have z : ∀ {px py qx qy : Int}, gm_turn px py qx qy px py = 0 := by intro px py qx qy; unfold gm_turn; grind
  have z2 : ∀ {px py qx qy : Int}, gm_turn px py qx qy qx qy = 0 := by intro px py qx qy; unfold gm_turn; grind
  have tw : ∀ {ax ay bx by' px py}, gm_turn bx by' ax ay px py = - gm_turn ax ay bx by' px py := by intro ax ay bx by' px py; unfold gm_turn; grind
  constructor
  · rintro (⟨h, h2⟩ | ⟨h, -⟩ | ⟨h, -⟩ | ⟨h, -⟩ | ⟨h, -⟩ | h)
    · refine ⟨?_, Int.le_of_lt (gm_pm.mpr h), Int.le_of_lt (gm_pm.mpr h2)⟩
      rintro (q | q)
      · exact gm_gap h h2 (by unfold gm_turn; grind) q
      · exact gm_gap h h2 (by unfold gm_turn; grind) q
    · refine ⟨gm_on_nb h (Or.inl ⟨rfl, rfl⟩), ?_, gm_on_ab h hab⟩
      rw [(gm_on_bx.mp h).1, Int.zero_mul]; omega
    · refine ⟨gm_on_nb h (Or.inr ⟨rfl, rfl⟩), ?_, ?_⟩
      · rw [(gm_on_bx.mp h).1, Int.mul_zero]; omega
      · have := gm_on_ab (dx := cx) (dy := cy) h hab
        rw [tw, tw (px := bx), Int.neg_mul_neg] at this
        exact this
    · refine ⟨fun q => gm_on_nb h (Or.inl ⟨rfl, rfl⟩) (by rw [gm_bp_sw, gm_bp_sw (a := ay)] at q; exact q), gm_on_ab h hcd, ?_⟩
      rw [(gm_on_bx.mp h).1, Int.zero_mul]; omega
    · refine ⟨fun q => gm_on_nb h (Or.inr ⟨rfl, rfl⟩) (by rw [gm_bp_sw, gm_bp_sw (a := ay)] at q; exact q), ?_, ?_⟩
      · have := gm_on_ab (dx := ax) (dy := ay) h hcd
        rw [tw, tw (px := dx), Int.neg_mul_neg] at this
        exact this
      · rw [(gm_on_bx.mp h).1, Int.mul_zero]; omega
    · exact absurd (by unfold gm_we; omega) hc
  · rintro ⟨hb, h1, h2⟩
    by_cases c0 : gm_turn ax ay bx by' cx cy = 0
    · by_cases d0 : gm_turn ax ay bx by' dx dy = 0
      · -- all on one line
        have e1 : ∀ px py, gm_turn ax ay bx by' px py = 0 → (bx - ax) * (py - ay) = (by' - ay) * (px - ax) := by intro px py h; unfold gm_turn at h; omega
        have e2 := e1 _ _ c0
        have e3 := e1 _ _ d0
        have key : ∀ {sx sy tx ty px py : Int}, gm_turn sx sy tx ty px py = 0 → ((sx - px) * (tx - px) ≤ 0 ∧ (sy - py) * (ty - py) ≤ 0) → gm_on sx sy tx ty px py := fun h1 h2 => gm_on_bx.mpr ⟨h1, gm_btw.mp h2.1, gm_btw.mp h2.2⟩
        have a0 : gm_turn cx cy dx dy ax ay = 0 := by
          rcases hab with q | q
          · refine (Int.mul_eq_zero.mp (show (bx - ax) * gm_turn cx cy dx dy ax ay = 0 by unfold gm_turn; grind)).resolve_left (by omega)
          · refine (Int.mul_eq_zero.mp (show (by' - ay) * gm_turn cx cy dx dy ax ay = 0 by unfold gm_turn; grind)).resolve_left (by omega)
        have b0 : gm_turn cx cy dx dy bx by' = 0 := by
          rcases hab with q | q
          · refine (Int.mul_eq_zero.mp (show (bx - ax) * gm_turn cx cy dx dy bx by' = 0 by unfold gm_turn; grind)).resolve_left (by omega)
          · refine (Int.mul_eq_zero.mp (show (by' - ay) * gm_turn cx cy dx dy bx by' = 0 by unfold gm_turn; grind)).resolve_left (by omega)
        have pr : ∀ {sx sy tx ty px py : Int}, (tx - sx) * (py - sy) = (ty - sy) * (px - sx) → tx ≠ sx → (sx - px) * (tx - px) ≤ 0 → (sx - px) * (tx - px) + (sy - py) * (ty - py) ≤ 0 := by
          intro sx sy tx ty px py h hn hp
          refine Int.not_lt.mp fun hh => ?_
          have k : ((sx - px) * (tx - px) + (sy - py) * (ty - py)) * ((tx - sx) * (tx - sx)) = ((sx - px) * (tx - px)) * ((tx - sx) * (tx - sx) + (ty - sy) * (ty - sy)) := by grind
          have k1 := Int.mul_pos hh (gm_sq0 (show tx - sx ≠ 0 by omega))
          have k2 := Int.mul_nonneg (show 0 ≤ -((sx - px) * (tx - px)) by omega) (show 0 ≤ (tx - sx) * (tx - sx) + (ty - sy) * (ty - sy) by have := gm_sq (tx - sx); have := gm_sq (ty - sy); omega)
          rw [Int.neg_mul] at k2
          omega
        have pr2 : ∀ {sx sy tx ty px py : Int}, (tx - sx) * (py - sy) = (ty - sy) * (px - sx) → ty ≠ sy → (sy - py) * (ty - py) ≤ 0 → (sx - px) * (tx - px) + (sy - py) * (ty - py) ≤ 0 := by
          intro sx sy tx ty px py h hn hp
          have := pr (sx := sy) (sy := sx) (tx := ty) (ty := tx) (px := py) (py := px) (by omega) hn hp
          omega
        have f : ∀ {px py : Int}, gm_turn cx cy dx dy px py = 0 → (dx - cx) * (py - cy) = (dy - cy) * (px - cx) := by intro px py h; unfold gm_turn at h; omega
        have cases4 : ∀ {a b c d : Int}, ¬ gm_bp a b c d → (a - c) * (b - c) ≤ 0 ∨ (a - d) * (b - d) ≤ 0 ∨ (c - a) * (d - a) ≤ 0 ∨ (c - b) * (d - b) ≤ 0 := by
          intro a b c d h
          rw [gm_btw, gm_btw, gm_btw, gm_btw]
          unfold gm_bp gm_lo gm_hi at h
          split at h <;> split at h <;> split at h <;> split at h <;> omega
        have fin : gm_on ax ay bx by' cx cy ∨ gm_on ax ay bx by' dx dy ∨ gm_on cx cy dx dy ax ay ∨ gm_on cx cy dx dy bx by' := by
          by_cases q : bx = ax
          · have q2 : by' ≠ ay := by omega
            have q3 : cx = ax := by
              have : (by' - ay) * (cx - ax) = 0 := by rw [← e2, q]; simp
              have := (Int.mul_eq_zero.mp this).resolve_left (by omega); omega
            have q4 : dx = ax := by
              have : (by' - ay) * (dx - ax) = 0 := by rw [← e3, q]; simp
              have := (Int.mul_eq_zero.mp this).resolve_left (by omega); omega
            rcases cases4 (fun z => hb (Or.inr z)) with r | r | r | r
            · exact Or.inl ⟨pr2 e2 q2 r, e2⟩
            · exact Or.inr (Or.inl ⟨pr2 e3 q2 r, e3⟩)
            · exact Or.inr (Or.inr (Or.inl ⟨pr2 (f a0) (by omega) r, f a0⟩))
            · exact Or.inr (Or.inr (Or.inr ⟨pr2 (f b0) (by omega) r, f b0⟩))
          · have q2 : dx ≠ cx := by
              intro z
              have h9 : (bx - ax) * (dy - cy) = 0 := by grind
              have := (Int.mul_eq_zero.mp h9).resolve_left (by omega); omega
            rcases cases4 (fun z => hb (Or.inl z)) with r | r | r | r
            · exact Or.inl ⟨pr e2 q r, e2⟩
            · exact Or.inr (Or.inl ⟨pr e3 q r, e3⟩)
            · exact Or.inr (Or.inr (Or.inl ⟨pr (f a0) q2 r, f a0⟩))
            · exact Or.inr (Or.inr (Or.inr ⟨pr (f b0) q2 r, f b0⟩))
        rcases fin with r | r | r | r
        · exact Or.inr (Or.inl ⟨r, hc⟩)
        · exact Or.inr (Or.inr (Or.inl ⟨r, hd⟩))
        · exact Or.inr (Or.inr (Or.inr (Or.inl ⟨r, by unfold gm_we at *; omega⟩)))
        · exact Or.inr (Or.inr (Or.inr (Or.inr (Or.inl ⟨r, by unfold gm_we at *; omega⟩))))
      · exact Or.inr (Or.inl ⟨gm_ab_on c0 d0 h2 hab, hc⟩)
    · by_cases d0 : gm_turn ax ay bx by' dx dy = 0
      · refine Or.inr (Or.inr (Or.inl ⟨gm_ab_on d0 c0 ?_ hab, hd⟩))
        rw [tw, tw (px := bx), Int.neg_mul_neg]; exact h2
      · by_cases a0 : gm_turn cx cy dx dy ax ay = 0
        · by_cases b0 : gm_turn cx cy dx dy bx by' = 0
          · exfalso
            apply c0
            rcases hcd with q | q
            · refine (Int.mul_eq_zero.mp (show (dx - cx) * gm_turn ax ay bx by' cx cy = 0 by unfold gm_turn at *; grind)).resolve_left (by omega)
            · refine (Int.mul_eq_zero.mp (show (dy - cy) * gm_turn ax ay bx by' cx cy = 0 by unfold gm_turn at *; grind)).resolve_left (by omega)
          · exact Or.inr (Or.inr (Or.inr (Or.inl ⟨gm_ab_on a0 b0 h1 hcd, by unfold gm_we at *; omega⟩)))
        · by_cases b0 : gm_turn cx cy dx dy bx by' = 0
          · refine Or.inr (Or.inr (Or.inr (Or.inr (Or.inl ⟨gm_ab_on b0 a0 ?_ hcd, by unfold gm_we at *; omega⟩))))
            rw [tw, tw (px := dx), Int.neg_mul_neg]; exact h1
          · refine Or.inl ⟨gm_pm.mp ?_, gm_pm.mp ?_⟩
            · have : gm_turn ax ay bx by' cx cy * gm_turn ax ay bx by' dx dy ≠ 0 := fun e => by rcases Int.mul_eq_zero.mp e with e | e <;> contradiction
              omega
            · have : gm_turn cx cy dx dy ax ay * gm_turn cx cy dx dy bx by' ≠ 0 := fun e => by rcases Int.mul_eq_zero.mp e with e | e <;> contradiction
              omega
