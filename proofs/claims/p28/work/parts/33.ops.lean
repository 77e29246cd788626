/-! What changes a board, as numbers: it stays sound. -/
/-- corners in sound order: all within, all apart -/
def gm_setP (D : Int → Int) (p n c : Int) (xs ys : Int → Int) (i : Int) : Int := if i = 67 + 27 * p then n else if i = 68 + 27 * p then c else if 69 + 27 * p ≤ i ∧ i < 93 + 27 * p then (if (i - 69 - 27 * p) % 2 = 0 then xs ((i - 69 - 27 * p) / 2) else ys ((i - 69 - 27 * p) / 2)) else D i
theorem gm_setP_o {D : Int → Int} {p n c : Int} {xs ys : Int → Int} {i : Int} (h : i < 67 + 27 * p ∨ 93 + 27 * p ≤ i) : gm_setP D p n c xs ys i = D i := by
  unfold gm_setP
  rw [if_neg (by omega), if_neg (by omega), if_neg (by omega)]
theorem gm_setP_n {D : Int → Int} {p n c : Int} {xs ys : Int → Int} : pN (gm_setP D p n c xs ys) p = n := by
  unfold pN gm_setP
  rw [if_pos rfl]
theorem gm_setP_c {D : Int → Int} {p n c : Int} {xs ys : Int → Int} : pC (gm_setP D p n c xs ys) p = c := by
  unfold pC gm_setP
  rw [if_neg (by omega), if_pos rfl]
theorem gm_setP_w {D : Int → Int} {p n c : Int} {xs ys : Int → Int} : pO (gm_setP D p n c xs ys) p = pO D p := gm_setP_o (by omega)
theorem gm_setP_x {D : Int → Int} {p n c : Int} {xs ys : Int → Int} {k : Int} (h0 : 0 ≤ k) (h1 : k < 12) : pX (gm_setP D p n c xs ys) p k = xs k ∧ pY (gm_setP D p n c xs ys) p k = ys k := by
  unfold pX pY gm_setP
  constructor
  · rw [if_neg (by omega), if_neg (by omega), if_pos (by omega), if_pos (by omega), show (69 + 27 * p + 2 * k - 69 - 27 * p) / 2 = k by omega]
  · rw [if_neg (by omega), if_neg (by omega), if_pos (by omega), if_neg (by omega), show (70 + 27 * p + 2 * k - 69 - 27 * p) / 2 = k by omega]
theorem gm_setP_q {D : Int → Int} {p q n c : Int} {xs ys : Int → Int} (h : q ≠ p) : pN (gm_setP D p n c xs ys) q = pN D q ∧ pC (gm_setP D p n c xs ys) q = pC D q ∧ pO (gm_setP D p n c xs ys) q = pO D q ∧ ∀ k, 0 ≤ k → k < 12 → pX (gm_setP D p n c xs ys) q k = pX D q k ∧ pY (gm_setP D p n c xs ys) q k = pY D q k :=
  ⟨gm_setP_o (by omega), gm_setP_o (by omega), gm_setP_o (by omega), fun k k0 k1 => ⟨gm_setP_o (by omega), gm_setP_o (by omega)⟩⟩
theorem BD.setP {h h1 : AH} {b : Nat} {D cm : Int → Int} {sc : Nat} (hB : BD h b D cm sc) (hD : VD D) {p n c : Int} {xs ys : Int → Int} (p0 : 0 ≤ p) (p1 : p < D 3) (hS : SX h1 (b + 6 + 3 * p.toNat) n c (pO D p) xs ys) (f : am_fr h h1 (b + 6 + 3 * p.toNat) (b + 6 + 3 * p.toNat + 3)) : BD h1 b (gm_setP D p n c xs ys) cm sc := by
  have d3 := hD.2.2.2.1
  have d2 := hD.2.2.1
  obtain ⟨⟨sx, sy, sv, hC, hs⟩, ha, hp⟩ := hB
  have hn : 0 ≤ n ∧ n ≤ 12 := by
    obtain ⟨_, _, _, q, _⟩ := hS
    exact q
  refine ⟨⟨sx, sy, sv, ?_, fun k k0 k1 => ?_⟩, am_sps ha p0 hS.sp f, fun q q0 q1 => ?_⟩
  · have := hC.kept f (by omega)
    unfold BC at this ⊢
    rw [gm_setP_o (i := 0) (by omega), gm_setP_o (i := 1) (by omega), gm_setP_o (i := 2) (by omega), gm_setP_o (i := 3) (by omega)]
    exact this
  · rw [gm_setP_o (i := 2) (by omega)] at k1
    unfold sX sY sV
    rw [gm_setP_o (by omega), gm_setP_o (by omega), gm_setP_o (by omega)]
    exact hs k k0 k1
  · rw [gm_setP_o (i := 3) (by omega)] at q1
    unfold SD
    by_cases e : q = p
    · subst e
      rw [gm_setP_n, gm_setP_c, gm_setP_w]
      exact hS.same fun k k0 k1 => gm_setP_x k0 (by omega)
    · obtain ⟨u1, u2, u3, u4⟩ := gm_setP_q (D := D) (n := n) (c := c) (xs := xs) (ys := ys) e
      rw [u1, u2, u3]
      have hv := (hD.2.2.2.2.2 q q0 q1).2.1
      have z := hp q q0 q1
      unfold SD at z
      exact (z.kept f (by omega)).same fun k k0 k1 => u4 k k0 (by omega)
theorem gm_setP_vd {D : Int → Int} (hD : VD D) {p n c : Int} {xs ys : Int → Int} (p0 : 0 ≤ p) (hn : 1 ≤ n ∧ n ≤ 12) (hc : c = 0 ∨ (c = 1 ∧ 3 ≤ n)) (hx : ∀ k, 0 ≤ k → k < n → (0 ≤ xs k ∧ xs k ≤ D 0) ∧ (0 ≤ ys k ∧ ys k ≤ D 1)) : VD (gm_setP D p n c xs ys) := by
  obtain ⟨v0, v1, v2, v3, v4, v5⟩ := hD
  unfold VD
  rw [gm_setP_o (i := 0) (by omega), gm_setP_o (i := 1) (by omega), gm_setP_o (i := 2) (by omega), gm_setP_o (i := 3) (by omega)]
  refine ⟨v0, v1, v2, v3, fun k k0 k1 => ?_, fun q q0 q1 => ?_⟩
  · have := v4 k k0 k1
    unfold sX sY sV at this ⊢
    rw [gm_setP_o (by omega), gm_setP_o (by omega), gm_setP_o (by omega)]
    exact this
  · by_cases e : q = p
    · subst e
      rw [gm_setP_n, gm_setP_c, gm_setP_w]
      refine ⟨(v5 q q0 q1).1, hn, hc, fun k k0 k1 => ?_⟩
      rw [(gm_setP_x k0 (by omega)).1, (gm_setP_x k0 (by omega)).2]
      exact hx k k0 k1
    · obtain ⟨u1, u2, u3, u4⟩ := gm_setP_q (D := D) (n := n) (c := c) (xs := xs) (ys := ys) e
      obtain ⟨w1, w2, w3, w4⟩ := v5 q q0 q1
      rw [u1, u2, u3]
      refine ⟨w1, w2, w3, fun k k0 k1 => ?_⟩
      rw [(u4 k k0 (by omega)).1, (u4 k k0 (by omega)).2]
      exact w4 k k0 k1
theorem gm_setP_ve {D : Int → Int} (hD : VD D) (hE : VE D) {p n c : Int} {xs ys : Int → Int} (p0 : 0 ≤ p) (hn : n ≤ 12) (hx : ∀ k m, 0 ≤ k → k < m → m < n → ¬ (xs k = xs m ∧ ys k = ys m)) : VE (gm_setP D p n c xs ys) := by
  intro q k m q0 q1 k0 km m1
  rw [gm_setP_o (i := 3) (by omega)] at q1
  by_cases e : q = p
  · subst e
    rw [gm_setP_n] at m1
    rw [(gm_setP_x k0 (by omega)).1, (gm_setP_x k0 (by omega)).2, (gm_setP_x (show 0 ≤ m by omega) (by omega)).1, (gm_setP_x (show 0 ≤ m by omega) (by omega)).2]
    exact hx k m k0 km m1
  · obtain ⟨u1, u2, u3, u4⟩ := gm_setP_q (D := D) (n := n) (c := c) (xs := xs) (ys := ys) e
    rw [u1] at m1
    have hv := (hD.2.2.2.2.2 q q0 q1).2.1
    rw [(u4 k k0 (by omega)).1, (u4 k k0 (by omega)).2, (u4 m (by omega) (by omega)).1, (u4 m (by omega) (by omega)).2]
    exact hE q k m q0 q1 k0 km m1
/-- a stone more -/
theorem gm_addS_o {D : Int → Int} {x y v i : Int} (h1 : i ≠ 2) (h2 : ¬ (6 + 3 * D 2 ≤ i ∧ i ≤ 8 + 3 * D 2)) : gm_addS D x y v i = D i := by
  unfold gm_addS am_uI
  rw [if_neg h1, if_neg (by omega), if_neg (by omega), if_neg (by omega)]
theorem gm_addS_2 {D : Int → Int} {x y v : Int} : gm_addS D x y v 2 = D 2 + 1 := by unfold gm_addS am_uI; rw [if_pos rfl]
theorem gm_addS_s {D : Int → Int} (h : 0 ≤ D 2) {x y v : Int} : sX (gm_addS D x y v) (D 2) = x ∧ sY (gm_addS D x y v) (D 2) = y ∧ sV (gm_addS D x y v) (D 2) = v := by
  unfold sX sY sV gm_addS am_uI
  refine ⟨?_, ?_, ?_⟩
  · rw [if_neg (by omega), if_neg (by omega), if_neg (by omega), if_pos (by omega)]
  · rw [if_neg (by omega), if_neg (by omega), if_pos (by omega)]
  · rw [if_neg (by omega), if_pos (by omega)]
theorem gm_addS_vd {D : Int → Int} (hD : VD D) {x y v : Int} (h2 : D 2 < 20) (hx : 0 ≤ x ∧ x ≤ D 0) (hy : 0 ≤ y ∧ y ≤ D 1) (hv : 1 ≤ v ∧ v ≤ 99) : VD (gm_addS D x y v) := by
  obtain ⟨v0, v1, v2, v3, v4, v5⟩ := hD
  unfold VD
  rw [gm_addS_o (i := 0) (by omega) (by omega), gm_addS_o (i := 1) (by omega) (by omega), gm_addS_2, gm_addS_o (i := 3) (by omega) (by omega)]
  refine ⟨v0, v1, by omega, v3, fun k k0 k1 => ?_, fun q q0 q1 => ?_⟩
  · by_cases e : k = D 2
    · subst e
      obtain ⟨a1, a2, a3⟩ := gm_addS_s (D := D) (x := x) (y := y) (v := v) v2.1
      rw [a1, a2, a3]
      exact ⟨hx, hy, hv⟩
    · have := v4 k k0 (by omega)
      unfold sX sY sV at this ⊢
      rw [gm_addS_o (by omega) (by omega), gm_addS_o (by omega) (by omega), gm_addS_o (by omega) (by omega)]
      exact this
  · have := v5 q q0 q1
    unfold pO pN pC pX pY at this ⊢
    obtain ⟨w1, w2, w3, w4⟩ := this
    rw [gm_addS_o (by omega) (by omega), gm_addS_o (i := 67 + 27 * q) (by omega) (by omega), gm_addS_o (i := 68 + 27 * q) (by omega) (by omega)]
    refine ⟨w1, w2, w3, fun k k0 k1 => ?_⟩
    rw [gm_addS_o (by omega) (by omega), gm_addS_o (i := 70 + 27 * q + 2 * k) (by omega) (by omega)]
    exact w4 k k0 k1
theorem gm_addS_ve {D : Int → Int} (hD : VD D) (hE : VE D) {x y v : Int} (h2 : D 2 < 20) : VE (gm_addS D x y v) := by
  intro q k m q0 q1 k0 km m1
  rw [gm_addS_o (i := 3) (by omega) (by have := hD.2.2.1; omega)] at q1
  have d := hD.2.2.1
  unfold pN at m1
  rw [gm_addS_o (by omega) (by omega)] at m1
  unfold pX pY
  rw [gm_addS_o (by omega) (by omega), gm_addS_o (by omega) (by omega), gm_addS_o (by omega) (by omega), gm_addS_o (by omega) (by omega)]
  exact hE q k m q0 q1 k0 km m1
/-- a polygon more -/
theorem gm_stP_o {D : Int → Int} {o x y i : Int} (h1 : i ≠ 3) (h2 : ¬ (66 + 27 * D 3 ≤ i ∧ i ≤ 70 + 27 * D 3)) : gm_stP D o x y i = D i := by
  unfold gm_stP am_uI
  rw [if_neg h1, if_neg (by omega), if_neg (by omega), if_neg (by omega), if_neg (by omega), if_neg (by omega)]
theorem gm_stP_3 {D : Int → Int} {o x y : Int} : gm_stP D o x y 3 = D 3 + 1 := by unfold gm_stP am_uI; rw [if_pos rfl]
theorem gm_stP_p {D : Int → Int} (h : 0 ≤ D 3) {o x y : Int} : pO (gm_stP D o x y) (D 3) = o ∧ pN (gm_stP D o x y) (D 3) = 1 ∧ pC (gm_stP D o x y) (D 3) = 0 ∧ pX (gm_stP D o x y) (D 3) 0 = x ∧ pY (gm_stP D o x y) (D 3) 0 = y := by
  refine ⟨?_, ?_, ?_, ?_, ?_⟩
  · unfold pO gm_stP am_uI; rw [if_neg (by omega), if_neg (by omega), if_neg (by omega), if_neg (by omega), if_neg (by omega), if_pos rfl]
  · unfold pN gm_stP am_uI; rw [if_neg (by omega), if_neg (by omega), if_neg (by omega), if_neg (by omega), if_pos rfl]
  · unfold pC gm_stP am_uI; rw [if_neg (by omega), if_neg (by omega), if_neg (by omega), if_pos rfl]
  · unfold pX gm_stP am_uI; rw [if_neg (by omega), if_neg (by omega), if_pos (by omega)]
  · unfold pY gm_stP am_uI; rw [if_neg (by omega), if_pos (by omega)]
theorem gm_stP_vd {D : Int → Int} (hD : VD D) {o x y : Int} (h3 : D 3 < 6) (ho : 0 ≤ o ∧ o ≤ 3) (hx : 0 ≤ x ∧ x ≤ D 0) (hy : 0 ≤ y ∧ y ≤ D 1) : VD (gm_stP D o x y) := by
  obtain ⟨v0, v1, v2, v3, v4, v5⟩ := hD
  unfold VD
  rw [gm_stP_o (i := 0) (by omega) (by omega), gm_stP_o (i := 1) (by omega) (by omega), gm_stP_o (i := 2) (by omega) (by omega), gm_stP_3]
  refine ⟨v0, v1, v2, by omega, fun k k0 k1 => ?_, fun q q0 q1 => ?_⟩
  · have := v4 k k0 k1
    unfold sX sY sV at this ⊢
    rw [gm_stP_o (by omega) (by omega), gm_stP_o (by omega) (by omega), gm_stP_o (by omega) (by omega)]
    exact this
  · by_cases e : q = D 3
    · subst e
      obtain ⟨a1, a2, a3, a4, a5⟩ := gm_stP_p (D := D) (o := o) (x := x) (y := y) v3.1
      rw [a1, a2, a3]
      refine ⟨ho, by omega, Or.inl rfl, fun k k0 k1 => ?_⟩
      obtain rfl : k = 0 := by omega
      rw [a4, a5]
      exact ⟨hx, hy⟩
    · have := v5 q q0 (by omega)
      unfold pO pN pC pX pY at this ⊢
      obtain ⟨w1, w2, w3, w4⟩ := this
      rw [gm_stP_o (by omega) (by omega), gm_stP_o (i := 67 + 27 * q) (by omega) (by omega), gm_stP_o (i := 68 + 27 * q) (by omega) (by omega)]
      refine ⟨w1, w2, w3, fun k k0 k1 => ?_⟩
      rw [gm_stP_o (by omega) (by omega), gm_stP_o (i := 70 + 27 * q + 2 * k) (by omega) (by omega)]
      exact w4 k k0 k1
theorem gm_stP_ve {D : Int → Int} (hD : VD D) (hE : VE D) {o x y : Int} (h3 : D 3 < 6) : VE (gm_stP D o x y) := by
  intro q k m q0 q1 k0 km m1
  rw [gm_stP_3] at q1
  have d := hD.2.2.2.1
  by_cases e : q = D 3
  · subst e
    rw [(gm_stP_p (D := D) (o := o) (x := x) (y := y) d.1).2.1] at m1
    omega
  · have hv := (hD.2.2.2.2.2 q q0 (by omega)).2.1
    unfold pN at m1
    rw [gm_stP_o (by omega) (by omega)] at m1
    have hv2 : D (67 + 27 * q) ≤ 12 := hv.2
    unfold pX pY
    rw [gm_stP_o (by omega) (by omega), gm_stP_o (by omega) (by omega), gm_stP_o (by omega) (by omega), gm_stP_o (by omega) (by omega)]
    exact hE q k m q0 (by omega) k0 km m1
/-- a corner more, at the end or between -/
theorem gm_in_vd {n p x W H y : Int} {xs ys : Int → Int} (hx : 0 ≤ x ∧ x ≤ W) (hy : 0 ≤ y ∧ y ≤ H) (p0 : 0 ≤ p) (p1 : p ≤ n) (h : ∀ k, 0 ≤ k → k < n → (0 ≤ xs k ∧ xs k ≤ W) ∧ (0 ≤ ys k ∧ ys k ≤ H)) (k : Int) (k0 : 0 ≤ k) (k1 : k < n + 1) : (0 ≤ gm_in p x xs k ∧ gm_in p x xs k ≤ W) ∧ (0 ≤ gm_in p y ys k ∧ gm_in p y ys k ≤ H) := by
  unfold gm_in
  by_cases a : k < p
  · rw [if_pos a, if_pos a]; exact h k k0 (by omega)
  · rw [if_neg a, if_neg a]
    by_cases c : k = p
    · rw [if_pos c, if_pos c]; exact ⟨hx, hy⟩
    · rw [if_neg c, if_neg c]; exact h _ (by omega) (by omega)
theorem gm_in_ve {n p x y : Int} {xs ys : Int → Int} (p0 : 0 ≤ p) (p1 : p ≤ n) (hn : ∀ k, 0 ≤ k → k < n → ¬ (xs k = x ∧ ys k = y)) (h : ∀ k m, 0 ≤ k → k < m → m < n → ¬ (xs k = xs m ∧ ys k = ys m)) (k m : Int) (k0 : 0 ≤ k) (km : k < m) (m1 : m < n + 1) : ¬ (gm_in p x xs k = gm_in p x xs m ∧ gm_in p y ys k = gm_in p y ys m) := by
  unfold gm_in
  by_cases a : k < p
  · rw [if_pos a, if_pos a]
    by_cases b : m < p
    · rw [if_pos b, if_pos b]; exact h k m k0 km (by omega)
    · rw [if_neg b, if_neg b]
      by_cases c : m = p
      · rw [if_pos c, if_pos c]; exact hn k k0 (by omega)
      · rw [if_neg c, if_neg c]; exact h k (m - 1) k0 (by omega) (by omega)
  · rw [if_neg a, if_neg a, if_neg (show ¬ m < p by omega), if_neg (show ¬ m < p by omega)]
    rw [if_neg (show ¬ m = p by omega), if_neg (show ¬ m = p by omega)]
    by_cases c : k = p
    · rw [if_pos c, if_pos c]; have := hn (m - 1) (by omega) (by omega); omega
    · rw [if_neg c, if_neg c]; exact h (k - 1) (m - 1) (by omega) (by omega) (by omega)
