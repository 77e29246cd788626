/-! Two closed polygons whose borders do not meet: around one point they have different areas. -/
/-- between each side of one and each side of the other a line can be drawn -/
def WS (X Y X' Y' : Int → Int) : Prop := ∀ i j : Int, ∃ p q, 0 < p * (X' j - X i) + q * (Y' j - Y i) ∧ 0 < p * (X' (j + 1) - X i) + q * (Y' (j + 1) - Y i) ∧ 0 < p * (X' j - X (i + 1)) + q * (Y' j - Y (i + 1)) ∧ 0 < p * (X' (j + 1) - X (i + 1)) + q * (Y' (j + 1) - Y (i + 1))
theorem WS.sy {X Y X' Y' : Int → Int} (h : WS X Y X' Y') : WS X' Y' X Y := fun i j => by
  obtain ⟨p, q, a, b, c, d⟩ := h j i
  exact ⟨-p, -q, by grind, by grind, by grind, by grind⟩
section NZ
variable {X Y X' Y' : Int → Int} {n n' : Nat}
/-- how often the border goes around a point given in parts -/
def nz_W (X Y : Int → Int) (n : Nat) (D a b : Int) : Int := gm_sm (fun j => wn_s (D * X j - a) (D * Y j - b) (D * X (j + 1) - a) (D * Y (j + 1) - b)) n
/-- along a line that no side meets -/
theorem nz_c (hP : WP X Y n) {D a b c d : Int} (h : ∀ j : Int, ∃ p q, 0 < p * (D * X j - a) + q * (D * Y j - b) ∧ 0 < p * (D * X (j + 1) - a) + q * (D * Y (j + 1) - b) ∧ 0 < p * (D * X j - c) + q * (D * Y j - d) ∧ 0 < p * (D * X (j + 1) - c) + q * (D * Y (j + 1) - d)) : nz_W X Y n D a b = nz_W X Y n D c d := by
  have t := gm_sm_t (fun j => wn_s (D * X j - a) (D * Y j - b) (D * X j - c) (D * Y j - d)) 0 n
  have u := gm_sm_sub (fun j => wn_s (D * X j - a) (D * Y j - b) (D * X (j + 1) - a) (D * Y (j + 1) - b)) (fun j => wn_s (D * X j - c) (D * Y j - d) (D * X (j + 1) - c) (D * Y (j + 1) - d)) n
  have e : gm_sm (fun t => (fun j => wn_s (D * X j - a) (D * Y j - b) (D * X j - c) (D * Y j - d)) (0 + t + 1) - (fun j => wn_s (D * X j - a) (D * Y j - b) (D * X j - c) (D * Y j - d)) (0 + t)) n = - gm_sm (fun t => wn_s (D * X t - a) (D * Y t - b) (D * X (t + 1) - a) (D * Y (t + 1) - b) - wn_s (D * X t - c) (D * Y t - d) (D * X (t + 1) - c) (D * Y (t + 1) - d)) n := by
    have ng : ∀ (f : Int → Int) (m : Nat), - gm_sm f m = gm_sm (fun t => - f t) m := by
      intro f m
      have := gm_sm_sub (fun _ => 0) f m
      rw [gm_sm_z] at this
      rw [gm_sm_c (g := fun t => 0 - f t) fun k _ _ => (Int.zero_sub _).symm, this]
      omega
    rw [ng]
    refine gm_sm_c fun k _ _ => ?_
    obtain ⟨p, q, h1, h2, h3, h4⟩ := h k
    have w := wn_4 h1 h2 h3 h4
    show wn_s (D * X (0 + k + 1) - a) (D * Y (0 + k + 1) - b) (D * X (0 + k + 1) - c) (D * Y (0 + k + 1) - d) - wn_s (D * X (0 + k) - a) (D * Y (0 + k) - b) (D * X (0 + k) - c) (D * Y (0 + k) - d) = _
    rw [Int.zero_add]
    omega
  rw [e, u] at t
  have z : wn_s (D * X (0 + (n : Int)) - a) (D * Y (0 + (n : Int)) - b) (D * X (0 + (n : Int)) - c) (D * Y (0 + (n : Int)) - d) = wn_s (D * X 0 - a) (D * Y 0 - b) (D * X 0 - c) (D * Y 0 - d) := by rw [(hP 0).1, (hP 0).2]
  rw [z] at t
  show gm_sm _ n = gm_sm _ n
  omega
theorem nz_1 (x y : Int) : nz_W X Y n 1 x y = wn_W X Y n x y := by
  refine gm_sm_c fun j _ _ => ?_
  show wn_s _ _ _ _ = _
  rw [Int.one_mul, Int.one_mul, Int.one_mul, Int.one_mul]
theorem nz_k {D : Int} (hD : 0 < D) (x y : Int) : nz_W X Y n D (D * x) (D * y) = wn_W X Y n x y := by
  refine gm_sm_c fun j _ _ => ?_
  show wn_s _ _ _ _ = _
  rw [← Int.mul_sub, ← Int.mul_sub, ← Int.mul_sub, ← Int.mul_sub, wn_sc hD]
theorem nz_p {D m u v : Int} (m0 : 0 ≤ m) (m1 : m ≤ D) (hD : 0 < D) (hu : 0 < u) (hv : 0 < v) : 0 < (D - m) * u + m * v := by
  by_cases z : m = 0
  · rw [z, Int.zero_mul, Int.add_zero, Int.sub_zero]; exact Int.mul_pos hD hu
  · have := Int.mul_pos (show 0 < m by omega) hv
    have := Int.mul_nonneg (show 0 ≤ D - m by omega) (Int.le_of_lt hu)
    omega
/-- a point of a side, given in parts -/
theorem nz_s (hS : WS X Y X' Y') (k j : Int) {D m : Int} (hD : 0 < D) (m0 : 0 ≤ m) (m1 : m ≤ D) : ∃ p q, (0 < p * (D * X' j - (D * X k + m * (X (k + 1) - X k))) + q * (D * Y' j - (D * Y k + m * (Y (k + 1) - Y k))) ∧ 0 < p * (D * X' (j + 1) - (D * X k + m * (X (k + 1) - X k))) + q * (D * Y' (j + 1) - (D * Y k + m * (Y (k + 1) - Y k)))) ∧ (0 < p * (D * X' j - D * X k) + q * (D * Y' j - D * Y k) ∧ 0 < p * (D * X' (j + 1) - D * X k) + q * (D * Y' (j + 1) - D * Y k)) ∧ 0 < p * (D * X' j - D * X (k + 1)) + q * (D * Y' j - D * Y (k + 1)) ∧ 0 < p * (D * X' (j + 1) - D * X (k + 1)) + q * (D * Y' (j + 1) - D * Y (k + 1)) := by
  obtain ⟨p, q, a, b, c, d⟩ := hS k j
  have e1 := nz_p m0 m1 hD a c
  have e2 := nz_p m0 m1 hD b d
  have e3 := Int.mul_pos hD a
  have e4 := Int.mul_pos hD b
  have e5 := Int.mul_pos hD c
  have e6 := Int.mul_pos hD d
  exact ⟨p, q, ⟨by grind, by grind⟩, ⟨by grind, by grind⟩, by grind, by grind⟩
/-- all along a side -/
theorem nz_a (hP : WP X' Y' n') (hS : WS X Y X' Y') (k : Int) {D m : Int} (hD : 0 < D) (m0 : 0 ≤ m) (m1 : m ≤ D) : nz_W X' Y' n' D (D * X k + m * (X (k + 1) - X k)) (D * Y k + m * (Y (k + 1) - Y k)) = wn_W X' Y' n' (X k) (Y k) := by
  rw [← nz_k hD]
  refine nz_c hP fun j => ?_
  obtain ⟨p, q, a, b, -⟩ := nz_s hS k j hD m0 m1
  exact ⟨p, q, a.1, a.2, b.1, b.2⟩
/-- corner by corner -/
theorem nz_b (hP : WP X' Y' n') (hS : WS X Y X' Y') : ∀ k : Nat, wn_W X' Y' n' (X k) (Y k) = wn_W X' Y' n' (X 0) (Y 0)
  | 0 => rfl
  | k + 1 => by
    rw [← nz_b hP hS k, ← nz_a hP hS k (D := 1) (m := 1) (by omega) (by omega) (by omega), ← nz_1]
    congr 1 <;> (rw [show ((k + 1 : Nat) : Int) = k + 1 by omega]; omega)
/-- a point of the field on a side -/
theorem nz_on (hB : WB X Y) {k x y : Int} (h : gm_on (X k) (Y k) (X (k + 1)) (Y (k + 1)) x y) : ∃ D m, 0 < D ∧ 0 ≤ m ∧ m ≤ D ∧ D * X k + m * (X (k + 1) - X k) = D * x ∧ D * Y k + m * (Y (k + 1) - Y k) = D * y := by
  rcases wn_b1 hB h with ⟨t, t0, t1, e1, e2⟩ | ⟨e1, e2⟩
  · obtain ⟨d1, d2, f1, f2, f3⟩ := wn_dd X Y k
    have f := f3 t
    refine ⟨wn_gd X Y k, t, by omega, t0, by omega, ?_, ?_⟩
    · rw [e1, f.1, f1]; grind
    · rw [e2, f.2, f2]; grind
  · refine ⟨1, 1, by omega, by omega, by omega, ?_, ?_⟩ <;> omega
theorem nz_o (hP : WP X' Y' n') (hB : WB X Y) (hS : WS X Y X' Y') {k : Nat} {x y : Int} (h : gm_on (X k) (Y k) (X (k + 1)) (Y (k + 1)) x y) : wn_W X' Y' n' x y = wn_W X' Y' n' (X 0) (Y 0) := by
  obtain ⟨D, m, hD, m0, m1, e1, e2⟩ := nz_on hB h
  have := nz_a hP hS k hD m0 m1
  rw [e1, e2, nz_k hD] at this
  rw [this, nz_b hP hS k]
/-- no point lies on both borders -/
theorem nz_d (hB : WB X Y) (hB' : WB X' Y') (hS : WS X Y X' Y') {k j x y : Int} (h : gm_on (X k) (Y k) (X (k + 1)) (Y (k + 1)) x y) (h' : gm_on (X' j) (Y' j) (X' (j + 1)) (Y' (j + 1)) x y) : False := by
  obtain ⟨D, m, hD, m0, m1, e1, e2⟩ := nz_on hB h
  obtain ⟨E, l, hE, l0, l1, f1, f2⟩ := nz_on hB' h'
  obtain ⟨p, q, ⟨a, b⟩, -⟩ := nz_s hS k j hD m0 m1
  rw [e1, e2] at a b
  have w := nz_p l0 l1 hE a b
  have z : (E - l) * (p * (D * X' j - D * x) + q * (D * Y' j - D * y)) + l * (p * (D * X' (j + 1) - D * x) + q * (D * Y' (j + 1) - D * y)) = D * (p * ((E * X' j + l * (X' (j + 1) - X' j)) - E * x) + q * ((E * Y' j + l * (Y' (j + 1) - Y' j)) - E * y)) := by grind
  rw [z, f1, f2, Int.sub_self, Int.sub_self, Int.mul_zero, Int.mul_zero, Int.add_zero, Int.mul_zero] at w
  omega
/-- the sides that the half line crosses -/
def nz_K (X Y : Int → Int) (x y j : Int) : Prop := wn_s (X j - x) (Y j - y) (X (j + 1) - x) (Y (j + 1) - y) ≠ 0
def nz_C (X Y : Int → Int) (x y j : Int) : Int := (X j - x) * (Y (j + 1) - y) - (Y j - y) * (X (j + 1) - x)
def nz_N (X Y : Int → Int) (x y j : Int) : Int := if Y j < Y (j + 1) then nz_C X Y x y j else - nz_C X Y x y j
def nz_D (Y : Int → Int) (j : Int) : Int := if Y j < Y (j + 1) then Y (j + 1) - Y j else Y j - Y (j + 1)
theorem nz_up {x y j : Int} (h : Y j < Y (j + 1)) : nz_N X Y x y j = nz_C X Y x y j ∧ nz_D Y j = Y (j + 1) - Y j := ⟨if_pos h, if_pos h⟩
theorem nz_dn {x y j : Int} (h : ¬ Y j < Y (j + 1)) : nz_N X Y x y j = - nz_C X Y x y j ∧ nz_D Y j = Y j - Y (j + 1) := ⟨if_neg h, if_neg h⟩
theorem nz_Ki {x y j : Int} (hj : nz_K X Y x y j) : (Y j - y ≤ 0 ∧ 0 < Y (j + 1) - y ∧ 0 < nz_C X Y x y j) ∨ (Y (j + 1) - y ≤ 0 ∧ 0 < Y j - y ∧ nz_C X Y x y j < 0) := by
  unfold nz_K wn_s at hj
  split at hj
  · rename_i c
    split at hj
    · exact Or.inl ⟨c.1, c.2, by assumption⟩
    · exact absurd rfl hj
  · split at hj
    · rename_i c
      split at hj
      · exact Or.inr ⟨c.1, c.2, by assumption⟩
      · exact absurd rfl hj
    · exact absurd rfl hj
theorem nz_Ku {x y j : Int} (h1 : Y j - y ≤ 0) (h2 : 0 < Y (j + 1) - y) (h3 : 0 < (X j - x) * (Y (j + 1) - y) - (Y j - y) * (X (j + 1) - x)) : nz_K X Y x y j := by
  unfold nz_K wn_s
  rw [if_pos ⟨h1, h2⟩, if_pos h3]
  decide
theorem nz_Kd {x y j : Int} (h1 : Y (j + 1) - y ≤ 0) (h2 : 0 < Y j - y) (h3 : (X j - x) * (Y (j + 1) - y) - (Y j - y) * (X (j + 1) - x) < 0) : nz_K X Y x y j := by
  unfold nz_K wn_s
  rw [if_neg (by omega), if_pos ⟨h1, h2⟩, if_pos h3]
  decide
theorem nz_pos {x y j : Int} (hj : nz_K X Y x y j) : 0 < nz_D Y j ∧ 0 < nz_N X Y x y j := by
  rcases nz_Ki hj with ⟨h1, h2, h3⟩ | ⟨h1, h2, h3⟩
  · have u := nz_up (X := X) (x := x) (y := y) (j := j) (Y := Y) (by omega)
    rw [u.1, u.2]; omega
  · have u := nz_dn (X := X) (x := x) (y := y) (j := j) (Y := Y) (by omega)
    rw [u.1, u.2]; omega
/-- the nearest crossing: nothing is crossed before it -/
theorem nz_m {x y D N : Int} (hD : 0 < D) (hN : 0 < N) (h : ∀ j : Int, 0 ≤ j → j < n → nz_K X Y x y j → N * nz_D Y j ≤ nz_N X Y x y j * D) : wn_W X Y n x y = gm_sm (fun j => wn_t (D * X j - (D * x + N)) (D * Y j - D * y) (D * X (j + 1) - (D * x + N)) (D * Y (j + 1) - D * y)) n := by
  refine gm_sm_c fun j j0 j1 => ?_
  have e := wn_mv (a := X j - x) (b := Y j - y) (c := X (j + 1) - x) (d := Y (j + 1) - y) hD hN (fun h1 h2 h3 => ?_) (fun h1 h2 h3 => ?_)
  · rw [e]
    congr 1 <;> grind
  · have := h j j0 j1 (nz_Ku h1 h2 h3)
    have u := nz_up (X := X) (x := x) (y := y) (j := j) (Y := Y) (by omega)
    rw [u.1, u.2] at this
    rw [show Y (j + 1) - y - (Y j - y) = Y (j + 1) - Y j by omega]
    exact this
  · have := h j j0 j1 (nz_Kd h1 h2 h3)
    have u := nz_dn (X := X) (x := x) (y := y) (j := j) (Y := Y) (by omega)
    rw [u.1, u.2] at this
    rw [show Y j - y - (Y (j + 1) - y) = Y j - Y (j + 1) by omega]
    exact this
/-- where the half line crosses a side -/
theorem nz_h {x y k : Int} (hk : nz_K X Y x y k) : ∃ m, 0 ≤ m ∧ m ≤ nz_D Y k ∧ nz_D Y k * X k + m * (X (k + 1) - X k) = nz_D Y k * x + nz_N X Y x y k ∧ nz_D Y k * Y k + m * (Y (k + 1) - Y k) = nz_D Y k * y := by
  rcases nz_Ki hk with ⟨h1, h2, h3⟩ | ⟨h1, h2, h3⟩
  · have u := nz_up (X := X) (x := x) (y := y) (j := k) (Y := Y) (by omega)
    rw [u.1, u.2]
    exact ⟨y - Y k, by omega, by omega, by unfold nz_C; grind, by grind⟩
  · have u := nz_dn (X := X) (x := x) (y := y) (j := k) (Y := Y) (by omega)
    rw [u.1, u.2]
    exact ⟨Y k - y, by omega, by omega, by unfold nz_C; grind, by grind⟩
/-- the nearest crossing is the other's: the point lies to this border as the other's corners do -/
theorem nz_n (hP : WP X' Y' n') (hS : WS X Y X' Y') {x y : Int} {k : Nat} (hk : nz_K X Y x y k) (h : ∀ j : Int, 0 ≤ j → j < n' → nz_K X' Y' x y j → nz_N X Y x y k * nz_D Y' j ≤ nz_N X' Y' x y j * nz_D Y k) : wn_W X' Y' n' x y = wn_W X' Y' n' (X 0) (Y 0) := by
  have p := nz_pos hk
  obtain ⟨m, m0, m1, e1, e2⟩ := nz_h hk
  rw [nz_m p.1 p.2 h, ← nz_b hP hS k, ← nz_a hP hS k p.1 m0 m1, e1, e2]
  refine gm_sm_c fun j _ _ => ?_
  obtain ⟨a, b, c, -⟩ := nz_s hS k j p.1 m0 m1
  rw [e1, e2] at c
  exact wn_ts c.1 c.2
theorem nz_g (hP : WP X Y n) (hP' : WP X' Y' n') (hS : WS X Y X' Y') {x y : Int} (h : wn_W X Y n x y ≠ 0) : wn_W X' Y' n' x y = wn_W X' Y' n' (X 0) (Y 0) ∨ wn_W X Y n x y = wn_W X Y n (X' 0) (Y' 0) := by
  rcases gm_arg (K := fun j => if j < n then nz_K X Y x y j else nz_K X' Y' x y (j - n)) (N := fun j => if j < n then nz_N X Y x y j else nz_N X' Y' x y (j - n)) (D := fun j => if j < n then nz_D Y j else nz_D Y' (j - n)) (fun j hj => by
    split at hj
    · rename_i c; rw [if_pos c]; exact (nz_pos hj).1
    · rename_i c; rw [if_neg c]; exact (nz_pos hj).1) (n + n') with q | ⟨k, k1, k2, k3⟩
  · refine absurd ?_ h
    have : wn_W X Y n x y = gm_sm (fun _ => 0) n := gm_sm_c fun j j0 j1 => Decidable.byContradiction fun w => by
      have := q j j0 (by omega)
      rw [if_pos j1] at this
      exact this w
    rw [this, gm_sm_z]
  · by_cases c : (k : Int) < n
    · rw [if_pos c] at k2
      left
      refine nz_n hP' hS k2 fun j j0 j1 hj => ?_
      have := k3 (j + n) (by omega) (by omega)
      rw [if_neg (show ¬ j + (n : Int) < n by omega), if_neg (show ¬ j + (n : Int) < n by omega), if_neg (show ¬ j + (n : Int) < n by omega), if_pos c, if_pos c, Int.add_sub_cancel] at this
      exact this hj
    · rw [if_neg c] at k2
      right
      have e : (k : Int) - n = ((k - n : Nat) : Int) := by omega
      rw [e] at k2
      refine nz_n hP hS.sy k2 fun j j0 j1 hj => ?_
      have := k3 j j0 (by omega)
      rw [if_pos j1, if_pos j1, if_pos j1, if_neg c, if_neg c, e] at this
      exact this hj
theorem nz_t (hP : WP X Y n) (hn : 1 ≤ n) {x y : Int} (h : ∀ j : Int, 0 ≤ j → j < n → Y j ≤ y) : wn_W X Y n x y = 0 := by
  have : wn_W X Y n x y = gm_sm (fun _ => 0) n := gm_sm_c fun j j0 j1 => by
    have a := h j j0 j1
    have b : Y (j + 1) ≤ y := by
      by_cases c : j + 1 < n
      · exact h (j + 1) (by omega) c
      · have := (hP 0).2
        rw [show j + 1 = 0 + (n : Int) by omega, this]
        exact h 0 (by omega) (by omega)
    unfold wn_s
    rw [if_neg (by omega), if_neg (by omega)]
  rw [this, gm_sm_z]
theorem nz_mx (Y : Int → Int) (hn : 1 ≤ n) : ∃ k : Nat, ∀ j : Int, 0 ≤ j → j < n → Y j ≤ Y k := by
  rcases gm_arg (K := fun _ => True) (N := fun j => - Y j) (D := fun _ => 1) (fun _ _ => by decide) n with h | ⟨k, k1, -, k3⟩
  · exact absurd trivial (h 0 (by omega) (by omega))
  · exact ⟨k, fun j j0 j1 => by
      have : -Y k * 1 ≤ -Y j * 1 := k3 j j0 j1 trivial
      omega⟩
/-- not each lies within the other -/
theorem nz_2 (hP : WP X Y n) (hP' : WP X' Y' n') (hn : 1 ≤ n) (hn' : 1 ≤ n') (hS : WS X Y X' Y') : wn_W X' Y' n' (X 0) (Y 0) = 0 ∨ wn_W X Y n (X' 0) (Y' 0) = 0 := by
  obtain ⟨k, hk⟩ := nz_mx Y hn
  obtain ⟨l, hl⟩ := nz_mx Y' hn'
  by_cases c : Y' l ≤ Y k
  · left
    rw [← nz_b hP' hS k]
    exact nz_t hP' hn' fun j j0 j1 => by have := hl j j0 j1; omega
  · right
    rw [← nz_b hP hS.sy l]
    exact nz_t hP hn fun j j0 j1 => by have := hk j j0 j1; omega
end NZ
