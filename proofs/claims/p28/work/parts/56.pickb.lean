/-! the points of the field on the border -/
/-- how many points of the field are so -/
noncomputable def gm_c1 (D : Int → Int) (p s x y : Int) : Int := gm_ite (gm_si s (pN D p) (pX D p) (pY D p) x y) 1 0
noncomputable def gm_ca (D : Int → Int) (p s : Int) : Int := gm_sm (fun x => gm_sm (gm_c1 D p s x) (D 1 + 1).toNat) (D 0 + 1).toNat
theorem gm_si_one {z z' n x y : Int} {xs ys : Int → Int} (h : gm_si z n xs ys x y) (h' : gm_si z' n xs ys x y) : z = z' := by
  rcases h with ⟨e, a⟩ | ⟨e, a, b⟩ | ⟨e, a, b⟩ <;> rcases h' with ⟨e', a'⟩ | ⟨e', a', b'⟩ | ⟨e', a', b'⟩ <;> first | omega | contradiction
theorem wn_lat {dx dy u v : Int} (h : dx * v = dy * u) (hne : dx ≠ 0 ∨ dy ≠ 0) : ∃ t d1 d2 : Int, 0 < (Int.gcd dx dy : Int) ∧ dx = (Int.gcd dx dy : Int) * d1 ∧ dy = (Int.gcd dx dy : Int) * d2 ∧ u = t * d1 ∧ v = t * d2 := by
  have g0 : 0 < Int.gcd dx dy := Nat.pos_of_ne_zero fun k => by
    have := Int.gcd_eq_zero_iff.mp k
    omega
  have e := Int.gcd_ediv_gcd_ediv_gcd g0
  have e1 := Int.mul_ediv_cancel' (Int.gcd_dvd_left (a := dx) (b := dy))
  have e2 := Int.mul_ediv_cancel' (Int.gcd_dvd_right (a := dx) (b := dy))
  generalize dx / (Int.gcd dx dy : Int) = d1 at *
  generalize dy / (Int.gcd dx dy : Int) = d2 at *
  generalize Int.gcd dx dy = g at *
  have g1 : (0 : Int) < g := by omega
  have k : d1 * v = d2 * u := by
    refine Int.eq_of_mul_eq_mul_left (a := (g : Int)) (by omega) ?_
    rw [← Int.mul_assoc, ← Int.mul_assoc, e1, e2]
    exact h
  by_cases z : d1 = 0
  · have f : d2 ∣ v := by
      have := (Int.dvd_gcd_mul_iff_dvd_mul (k := d2) (n := d1) (m := v)).mpr ⟨u, k⟩
      rw [Int.gcd_comm, e] at this
      simpa using this
    obtain ⟨t, ht⟩ := f
    refine ⟨t, d1, d2, g1, e1.symm, e2.symm, ?_, by rw [ht, Int.mul_comm]⟩
    rw [z, Int.mul_zero]
    rw [z, Int.zero_mul] at k
    rcases Int.mul_eq_zero.mp k.symm with q | q
    · rw [z, q] at e
      exact absurd e (by decide)
    · exact q
  · have f : d1 ∣ u := by
      have := (Int.dvd_gcd_mul_iff_dvd_mul (k := d1) (n := d2) (m := u)).mpr ⟨v, k.symm⟩
      rw [e] at this
      simpa using this
    obtain ⟨t, ht⟩ := f
    refine ⟨t, d1, d2, g1, e1.symm, e2.symm, by rw [ht, Int.mul_comm], ?_⟩
    refine Int.eq_of_mul_eq_mul_left z ?_
    rw [k, ht]
    grind
def wn_gd (X Y : Int → Int) (k : Int) : Int := (Int.gcd (X (k + 1) - X k) (Y (k + 1) - Y k) : Int)
def wn_px (X Y Z : Int → Int) (k t : Int) : Int := Z k + t * ((Z (k + 1) - Z k) / wn_gd X Y k)
section PL
variable {X Y : Int → Int} {n : Nat}
theorem wn_gp (hB : WB X Y) (k : Int) : 0 < wn_gd X Y k ∧ (X (k + 1) - X k ≠ 0 ∨ Y (k + 1) - Y k ≠ 0) := by
  have : X (k + 1) - X k ≠ 0 ∨ Y (k + 1) - Y k ≠ 0 := by
    obtain ⟨p, q, a, -⟩ := hB k
    unfold wn_l at a
    refine Decidable.byContradiction fun c => ?_
    rw [show X (k + 1) - X k = 0 by omega, show Y (k + 1) - Y k = 0 by omega, Int.mul_zero, Int.mul_zero] at a
    omega
  refine ⟨?_, this⟩
  unfold wn_gd
  have : 0 < Int.gcd (X (k + 1) - X k) (Y (k + 1) - Y k) := Nat.pos_of_ne_zero fun q => by
    have := Int.gcd_eq_zero_iff.mp q
    omega
  omega
/-- the steps along a side -/
theorem wn_dd (X Y : Int → Int) (k : Int) : ∃ d1 d2, X (k + 1) - X k = wn_gd X Y k * d1 ∧ Y (k + 1) - Y k = wn_gd X Y k * d2 ∧ ∀ t, wn_px X Y X k t = X k + t * d1 ∧ wn_px X Y Y k t = Y k + t * d2 :=
  ⟨_, _, (Int.mul_ediv_cancel' (Int.gcd_dvd_left ..)).symm, (Int.mul_ediv_cancel' (Int.gcd_dvd_right ..)).symm, fun t => ⟨rfl, rfl⟩⟩
theorem wn_b1 (hB : WB X Y) {k x y : Int} (h : gm_on (X k) (Y k) (X (k + 1)) (Y (k + 1)) x y) : (∃ t, 0 ≤ t ∧ t < wn_gd X Y k ∧ x = wn_px X Y X k t ∧ y = wn_px X Y Y k t) ∨ (x = X (k + 1) ∧ y = Y (k + 1)) := by
  obtain ⟨h1, h2⟩ := h
  have gp := wn_gp hB k
  obtain ⟨t, d1, d2, g0, e1, e2, f1, f2⟩ := wn_lat h2 gp.2
  obtain ⟨c1, c2, k1, k2, k3⟩ := wn_dd X Y k
  have g1 : (Int.gcd (X (k + 1) - X k) (Y (k + 1) - Y k) : Int) = wn_gd X Y k := rfl
  rw [g1] at e1 e2
  have s1 : c1 = d1 := Int.eq_of_mul_eq_mul_left (a := wn_gd X Y k) (by omega) (k1.symm.trans e1)
  have s2 : c2 = d2 := Int.eq_of_mul_eq_mul_left (a := wn_gd X Y k) (by omega) (k2.symm.trans e2)
  subst s1 s2
  have gg := gp.1
  have nn : 0 < c1 * c1 + c2 * c2 := by
    refine gm_nn ?_
    rcases gp.2 with q | q
    · left; intro z; rw [z, Int.mul_zero] at e1; exact q e1
    · right; intro z; rw [z, Int.mul_zero] at e2; exact q e2
  generalize wn_gd X Y k = g at *
  have m : 0 ≤ (t * (g - t)) * (c1 * c1 + c2 * c2) := by
    have : (X k - x) * (X (k + 1) - x) + (Y k - y) * (Y (k + 1) - y) = -((t * (g - t)) * (c1 * c1 + c2 * c2)) := by
      rw [show X k - x = -(t * c1) by omega, show Y k - y = -(t * c2) by omega, show X (k + 1) - x = g * c1 - t * c1 by omega, show Y (k + 1) - y = g * c2 - t * c2 by omega]
      grind
    omega
  have m2 : 0 ≤ t * (g - t) := Int.not_lt.mp fun q => by
    have := Int.mul_pos (show 0 < -(t * (g - t)) by omega) nn
    rw [Int.neg_mul] at this
    omega
  have m3 : 0 ≤ t := Int.not_lt.mp fun q => by
    have := Int.mul_pos (show 0 < -t by omega) (show 0 < g - t by omega)
    rw [Int.neg_mul] at this
    omega
  have m4 : t ≤ g := Int.not_lt.mp fun q => by
    have := Int.mul_pos (show 0 < t by omega) (show 0 < -(g - t) by omega)
    rw [Int.mul_neg] at this
    omega
  by_cases z : t = g
  · right
    subst z
    constructor <;> omega
  · left
    exact ⟨t, m3, by omega, by rw [(k3 t).1]; omega, by rw [(k3 t).2]; omega⟩
theorem wn_b2 {k t : Int} (t0 : 0 ≤ t) (t1 : t ≤ wn_gd X Y k) : gm_on (X k) (Y k) (X (k + 1)) (Y (k + 1)) (wn_px X Y X k t) (wn_px X Y Y k t) := by
  obtain ⟨c1, c2, k1, k2, k3⟩ := wn_dd X Y k
  rw [(k3 t).1, (k3 t).2]
  generalize wn_gd X Y k = g at *
  have m := Int.mul_nonneg (Int.mul_nonneg t0 (show 0 ≤ g - t by omega)) (show 0 ≤ c1 * c1 + c2 * c2 by have := gm_sq c1; have := gm_sq c2; omega)
  constructor
  · rw [show X (k + 1) - (X k + t * c1) = g * c1 - t * c1 by omega, show Y (k + 1) - (Y k + t * c2) = g * c2 - t * c2 by omega]
    grind
  · rw [k1, k2]
    grind
/-- no point lies on two sides, their ends aside -/
theorem wn_u1 (hA : WA X Y n) {i j t s : Int} (h1 : i + 2 ≤ j) (h2 : j ≤ i + n - 2) (t0 : 0 ≤ t) (t1 : t < wn_gd X Y i) (s0 : 0 ≤ s) (s1 : s < wn_gd X Y j) : ¬ (wn_px X Y X i t = wn_px X Y X j s ∧ wn_px X Y Y i t = wn_px X Y Y j s) := by
  rintro ⟨e1, e2⟩
  obtain ⟨p, q, a, b, c, d⟩ := hA i j h1 h2
  obtain ⟨c1, c2, k1, k2, k3⟩ := wn_dd X Y i
  obtain ⟨f1, f2, l1, l2, l3⟩ := wn_dd X Y j
  rw [(k3 t).1, (l3 s).1] at e1
  rw [(k3 t).2, (l3 s).2] at e2
  unfold wn_l at a b c d
  generalize wn_gd X Y i = g at *
  generalize wn_gd X Y j = h at *
  have m1 := Int.mul_pos (Int.mul_pos (show 0 < g - t by omega) (show 0 < h - s by omega)) a
  have m2 := Int.mul_nonneg (Int.mul_nonneg (show 0 ≤ g - t by omega) s0) (Int.le_of_lt b)
  have m3 := Int.mul_nonneg (Int.mul_nonneg t0 (show 0 ≤ h - s by omega)) (Int.le_of_lt c)
  have m4 := Int.mul_nonneg (Int.mul_nonneg t0 s0) (Int.le_of_lt d)
  obtain ⟨x, hx⟩ : ∃ x, x = X j - X i := ⟨_, rfl⟩
  obtain ⟨y, hy⟩ : ∃ y, y = Y j - Y i := ⟨_, rfl⟩
  rw [show X (j + 1) - X i = x + h * f1 by omega, show Y (j + 1) - Y i = y + h * f2 by omega] at m2
  rw [show X j - X (i + 1) = x - g * c1 by omega, show Y j - Y (i + 1) = y - g * c2 by omega] at m3
  rw [show X (j + 1) - X (i + 1) = x + h * f1 - g * c1 by omega, show Y (j + 1) - Y (i + 1) = y + h * f2 - g * c2 by omega] at m4
  rw [← hx, ← hy] at m1
  have x1 : x + s * f1 - t * c1 = 0 := by omega
  have y1 : y + s * f2 - t * c2 = 0 := by omega
  have tot : (g - t) * (h - s) * (p * x + q * y) + (g - t) * s * (p * (x + h * f1) + q * (y + h * f2)) + t * (h - s) * (p * (x - g * c1) + q * (y - g * c2)) + t * s * (p * (x + h * f1 - g * c1) + q * (y + h * f2 - g * c2)) = g * h * (p * (x + s * f1 - t * c1) + q * (y + s * f2 - t * c2)) := by grind
  rw [x1, y1, Int.mul_zero, Int.mul_zero, Int.add_zero, Int.mul_zero] at tot
  omega
theorem wn_u2 (hB : WB X Y) {i t s : Int} (t1 : t < wn_gd X Y i) (s0 : 0 ≤ s) : ¬ (wn_px X Y X i t = wn_px X Y X (i + 1) s ∧ wn_px X Y Y i t = wn_px X Y Y (i + 1) s) := by
  rintro ⟨e1, e2⟩
  obtain ⟨p, q, a, b⟩ := hB i
  have gp := (wn_gp hB (i + 1)).1
  have gi := (wn_gp hB i).1
  obtain ⟨c1, c2, k1, k2, k3⟩ := wn_dd X Y i
  obtain ⟨f1, f2, l1, l2, l3⟩ := wn_dd X Y (i + 1)
  rw [(k3 t).1, (l3 s).1] at e1
  rw [(k3 t).2, (l3 s).2] at e2
  rw [show i + 1 + 1 = i + 2 by omega] at l1 l2
  unfold wn_l at a b
  rw [k1, k2] at a
  rw [l1, l2] at b
  generalize wn_gd X Y i = g at *
  generalize wn_gd X Y (i + 1) = h at *
  have m1 := Int.mul_pos (Int.mul_pos (show 0 < g - t by omega) gp) a
  have m2 := Int.mul_nonneg (Int.mul_nonneg s0 (Int.le_of_lt gi)) (Int.le_of_lt b)
  have x1 : (g - t) * c1 + s * f1 = 0 := by rw [Int.sub_mul]; omega
  have y1 : (g - t) * c2 + s * f2 = 0 := by rw [Int.sub_mul]; omega
  have tot : (g - t) * h * (p * (g * c1) + q * (g * c2)) + s * g * (p * (h * f1) + q * (h * f2)) = g * h * (p * ((g - t) * c1 + s * f1) + q * ((g - t) * c2 + s * f2)) := by grind
  rw [x1, y1, Int.mul_zero, Int.mul_zero, Int.add_zero, Int.mul_zero] at tot
  omega
theorem wn_pp (hP : WP X Y n) (k t : Int) : wn_px X Y X (k + n) t = wn_px X Y X k t ∧ wn_px X Y Y (k + n) t = wn_px X Y Y k t ∧ wn_gd X Y (k + n) = wn_gd X Y k := by
  unfold wn_px wn_gd
  rw [show k + (n : Int) + 1 = k + 1 + n by omega, (hP _).1, (hP _).2, (hP _).1, (hP _).2]
  exact ⟨rfl, rfl, rfl⟩
theorem wn_un (hP : WP X Y n) (hA : WA X Y n) (hB : WB X Y) (hn : 3 ≤ n) {i j t s : Int} (i0 : 0 ≤ i) (i1 : i < n) (j0 : 0 ≤ j) (j1 : j < n) (t0 : 0 ≤ t) (t1 : t < wn_gd X Y i) (s0 : 0 ≤ s) (s1 : s < wn_gd X Y j) (h : wn_px X Y X i t = wn_px X Y X j s ∧ wn_px X Y Y i t = wn_px X Y Y j s) : i = j ∧ t = s := by
  have key : ∀ i j t s : Int, 0 ≤ i → i < j → j < n → 0 ≤ t → t < wn_gd X Y i → 0 ≤ s → s < wn_gd X Y j → ¬ (wn_px X Y X i t = wn_px X Y X j s ∧ wn_px X Y Y i t = wn_px X Y Y j s) := by
    intro i j t s i0 ij j1 t0 t1 s0 s1 h
    by_cases c1 : j = i + 1
    · subst c1
      exact wn_u2 hB t1 s0 h
    · by_cases c2 : j ≤ i + n - 2
      · exact wn_u1 hA (by omega) c2 t0 t1 s0 s1 h
      · obtain rfl : i = 0 := by omega
        obtain rfl : j = (n : Int) - 1 := by omega
        have p := wn_pp hP 0 t
        refine wn_u2 hB s1 t0 ?_
        rw [show (n : Int) - 1 + 1 = 0 + n by omega, p.1, p.2.1]
        exact ⟨h.1.symm, h.2.symm⟩
  rcases Int.lt_trichotomy i j with c | c | c
  · exact absurd h (key i j t s i0 c j1 t0 t1 s0 s1)
  · subst c
    refine ⟨rfl, ?_⟩
    obtain ⟨c1, c2, k1, k2, k3⟩ := wn_dd X Y i
    rw [(k3 t).1, (k3 s).1, (k3 t).2, (k3 s).2] at h
    have z := (wn_gp hB i).2
    rw [k1, k2] at z
    rcases z with z | z
    · exact Int.eq_of_mul_eq_mul_right (a := c1) (fun q => z (by rw [q, Int.mul_zero])) (by omega)
    · exact Int.eq_of_mul_eq_mul_right (a := c2) (fun q => z (by rw [q, Int.mul_zero])) (by omega)
  · exact absurd ⟨h.1.symm, h.2.symm⟩ (key j i s t j0 c i1 s0 s1 t0 t1)
def wn_B (X Y : Int → Int) (n : Nat) (x y : Int) : Prop := ∃ k, 0 ≤ k ∧ k < (n : Int) ∧ gm_on (X k) (Y k) (X (k + 1)) (Y (k + 1)) x y
theorem wn_B1 (hP : WP X Y n) (hB : WB X Y) (hn : 3 ≤ n) {x y : Int} : wn_B X Y n x y ↔ ∃ k t, 0 ≤ k ∧ k < (n : Int) ∧ 0 ≤ t ∧ t < wn_gd X Y k ∧ x = wn_px X Y X k t ∧ y = wn_px X Y Y k t := by
  constructor
  · rintro ⟨k, k0, k1, h⟩
    rcases wn_b1 hB h with ⟨t, t0, t1, e1, e2⟩ | ⟨e1, e2⟩
    · exact ⟨k, t, k0, k1, t0, t1, e1, e2⟩
    · have z : ∀ j, wn_px X Y X j 0 = X j ∧ wn_px X Y Y j 0 = Y j := fun j => by unfold wn_px; rw [Int.zero_mul, Int.zero_mul]; exact ⟨Int.add_zero _, Int.add_zero _⟩
      by_cases c : k + 1 < n
      · exact ⟨k + 1, 0, by omega, c, by omega, (wn_gp hB _).1, by rw [(z _).1]; exact e1, by rw [(z _).2]; exact e2⟩
      · have p := hP 0
        rw [show k + 1 = 0 + (n : Int) by omega, p.1] at e1
        rw [show k + 1 = 0 + (n : Int) by omega, p.2] at e2
        exact ⟨0, 0, by omega, by omega, by omega, (wn_gp hB _).1, by rw [(z _).1]; exact e1, by rw [(z _).2]; exact e2⟩
  · rintro ⟨k, t, k0, k1, t0, t1, e1, e2⟩
    rw [e1, e2]
    exact ⟨k, k0, k1, wn_b2 t0 (by omega)⟩
theorem gm_pick {f : Int → Int} {a : Int} : ∀ m : Nat, 0 ≤ a → gm_sm (fun x => if x = a then f x else 0) m = if a < m then f a else 0
  | 0, a0 => by rw [if_neg (by omega)]; rfl
  | m + 1, a0 => by
    rw [gm_sm_l, gm_pick m a0]
    by_cases c : (m : Int) = a
    · rw [if_neg (by omega), if_pos c, if_pos (by omega), c]; omega
    · rw [if_neg c]
      split
      · rw [if_pos (by omega)]; omega
      · rw [if_neg (by omega)]; omega
theorem gm_pick2 {F : Int → Int → Int} {a b : Int} {m l : Nat} (a0 : 0 ≤ a) (a1 : a < m) (b0 : 0 ≤ b) (b1 : b < l) : gm_sm (fun x => gm_sm (fun y => if x = a ∧ y = b then F x y else 0) l) m = F a b := by
  rw [gm_sm_c (g := fun x => if x = a then gm_sm (fun y => if y = b then F x y else 0) l else 0) fun x _ _ => ?_]
  · rw [gm_pick m a0, if_pos a1, gm_pick l b0, if_pos b1]
  · by_cases c : x = a
    · rw [if_pos c]
      exact gm_sm_c fun y _ _ => by
        by_cases e : y = b
        · rw [if_pos ⟨c, e⟩, if_pos e]
        · rw [if_neg (fun q => e q.2), if_neg e]
    · rw [if_neg c, gm_sm_c (g := fun _ => 0) fun y _ _ => if_neg (fun q => c q.1)]
      exact gm_sm_z l
/-- one of them -/
theorem gm_one {f : Int → Int} {k v : Int} : ∀ {m : Nat}, 0 ≤ k → k < m → f k = v → (∀ j : Int, 0 ≤ j → j < m → j ≠ k → f j = 0) → gm_sm f m = v
  | 0, k0, k1, _, _ => by omega
  | m + 1, k0, k1, hk, h => by
    rw [gm_sm_l]
    by_cases c : k = m
    · rw [gm_sm_c (g := fun _ => 0) fun j j0 j1 => h j j0 (by omega) (by omega), gm_sm_z, ← c, hk]
      omega
    · rw [gm_one k0 (by omega) hk fun j j0 j1 e => h j j0 (by omega) e, h m (by omega) (by omega) (by omega)]
      omega
end PL
/-! areas by sides and areas by counted points -/
section PM
variable {X Y : Int → Int} {n m l : Nat}
/-- a sum over the border's points, by the sides -/
theorem wn_bs (hP : WP X Y n) (hA : WA X Y n) (hB : WB X Y) (hn : 3 ≤ n) (hV : ∀ k : Int, (0 ≤ X k ∧ X k < m) ∧ (0 ≤ Y k ∧ Y k < l)) (F : Int → Int → Int) (G : Int → Int → Int) (hG : ∀ x y : Int, 0 ≤ x → x < m → 0 ≤ y → y < l → (wn_B X Y n x y → G x y = F x y) ∧ (¬ wn_B X Y n x y → G x y = 0)) : gm_sm (fun x => gm_sm (fun y => G x y) l) m = gm_sm (fun k => gm_sm (fun t => F (wn_px X Y X k t) (wn_px X Y Y k t)) (wn_gd X Y k).toNat) n := by
  have e : ∀ x y : Int, 0 ≤ x → x < m → 0 ≤ y → y < l → G x y = gm_sm (fun k => gm_sm (fun t => if x = wn_px X Y X k t ∧ y = wn_px X Y Y k t then F x y else 0) (wn_gd X Y k).toNat) n := by
    intro x y x0 x1 y0 y1
    have h := hG x y x0 x1 y0 y1
    by_cases c : wn_B X Y n x y
    · rw [h.1 c]
      obtain ⟨k, t, k0, k1, t0, t1, e1, e2⟩ := (wn_B1 hP hB hn).mp c
      have inner : gm_sm (fun t => if x = wn_px X Y X k t ∧ y = wn_px X Y Y k t then F x y else 0) (wn_gd X Y k).toNat = F x y := gm_one (k := t) t0 (by omega) (if_pos ⟨e1, e2⟩) fun s s0 s1 e => if_neg fun q => e (wn_un hP hA hB hn k0 k1 k0 k1 s0 (by omega) t0 t1 ⟨q.1.symm.trans e1, q.2.symm.trans e2⟩).2
      refine (gm_one (k := k) k0 k1 inner fun j j0 j1 e => ?_).symm
      rw [gm_sm_c (g := fun _ => 0) fun s s0 s1 => if_neg fun q => e (wn_un hP hA hB hn j0 j1 k0 k1 s0 (by omega) t0 t1 ⟨q.1.symm.trans e1, q.2.symm.trans e2⟩).1]
      exact gm_sm_z _
    · rw [h.2 c, gm_sm_c (g := fun _ => 0) fun k k0 k1 => ?_]
      · exact (gm_sm_z n).symm
      · rw [gm_sm_c (g := fun _ => 0) fun t t0 t1 => if_neg fun q => c ((wn_B1 hP hB hn).mpr ⟨k, t, k0, k1, t0, by omega, q.1, q.2⟩)]
        exact gm_sm_z _
  rw [gm_sm_c (g := fun x => gm_sm (fun k => gm_sm (fun y => gm_sm (fun t => if x = wn_px X Y X k t ∧ y = wn_px X Y Y k t then F x y else 0) (wn_gd X Y k).toNat) l) n) fun x x0 x1 => (gm_sm_c fun y y0 y1 => e x y x0 x1 y0 y1).trans (gm_sm_sw _ _ _)]
  rw [gm_sm_sw]
  refine gm_sm_c fun k k0 k1 => ?_
  rw [gm_sm_c fun x x0 x1 => gm_sm_sw _ _ _, gm_sm_sw]
  refine gm_sm_c fun t t0 t1 => ?_
  have g := (wn_gp hB k).1
  have v1 := hV k
  have v2 := hV (k + 1)
  obtain ⟨c1, c2, k1, k2, k3⟩ := wn_dd X Y k
  have bx := (k3 t).1
  have by' := (k3 t).2
  have r1 : 0 ≤ wn_px X Y X k t ∧ wn_px X Y X k t < m := by
    rw [bx]
    generalize wn_gd X Y k = gg at *
    have q1 := Int.mul_nonneg (show 0 ≤ gg - t by omega) v1.1.1
    have q2 := Int.mul_nonneg t0 v2.1.1
    have q3 := Int.mul_pos (show 0 < gg - t by omega) (show 0 < (m : Int) - X k by omega)
    have q4 := Int.mul_nonneg t0 (show 0 ≤ (m : Int) - X (k + 1) by omega)
    rw [show X (k + 1) = X k + gg * c1 by omega] at q2 q4
    constructor
    · refine Int.not_lt.mp fun q => ?_
      have := Int.mul_pos g (show 0 < -(X k + t * c1) by omega)
      grind
    · refine Int.not_le.mp fun q => ?_
      have := Int.mul_nonneg (Int.le_of_lt g) (show 0 ≤ X k + t * c1 - m by omega)
      grind
  have r2 : 0 ≤ wn_px X Y Y k t ∧ wn_px X Y Y k t < l := by
    rw [by']
    generalize wn_gd X Y k = gg at *
    have q1 := Int.mul_nonneg (show 0 ≤ gg - t by omega) v1.2.1
    have q2 := Int.mul_nonneg t0 v2.2.1
    have q3 := Int.mul_pos (show 0 < gg - t by omega) (show 0 < (l : Int) - Y k by omega)
    have q4 := Int.mul_nonneg t0 (show 0 ≤ (l : Int) - Y (k + 1) by omega)
    rw [show Y (k + 1) = Y k + gg * c2 by omega] at q2 q4
    constructor
    · refine Int.not_lt.mp fun q => ?_
      have := Int.mul_pos g (show 0 < -(Y k + t * c2) by omega)
      grind
    · refine Int.not_le.mp fun q => ?_
      have := Int.mul_nonneg (Int.le_of_lt g) (show 0 ≤ Y k + t * c2 - l by omega)
      grind
  exact gm_pick2 (F := F) r1.1 r1.2 r2.1 r2.2
theorem wn_sh {F : Int → Int} (hF : ∀ i, F (i + n) = F i) : gm_sm (fun k => F (k + 1)) n = gm_sm F n := by
  rw [← gm_sm_rot hF 1]
  exact gm_sm_c fun t _ _ => by show F _ = F _; congr 1; omega
/-- off the border both counts agree -/
theorem wn_of {a b c d : Int} (h : ¬ gm_on a b c d 0 0) : wn_t a b c d = wn_s a b c d := by
  have key : ∀ {a b c d : Int}, b ≤ 0 → 0 < d → a * d - b * c = 0 → (a - 0) * (c - 0) + (b - 0) * (d - 0) ≤ 0 := by
    intro a b c d h1 h2 h3
    refine Int.not_lt.mp fun q => ?_
    have m1 := Int.mul_pos h2 q
    have m2 := Int.mul_nonneg (show 0 ≤ -b by omega) (show 0 ≤ c * c + d * d by have := gm_sq c; have := gm_sq d; omega)
    have e : d * ((a - 0) * (c - 0) + (b - 0) * (d - 0)) = c * (a * d - b * c) + b * (c * c + d * d) := by
      rw [Int.sub_zero, Int.sub_zero, Int.sub_zero, Int.sub_zero]
      grind
    rw [h3, Int.mul_zero] at e
    rw [Int.neg_mul] at m2
    omega
  unfold wn_t wn_s
  by_cases k1 : b ≤ 0 ∧ 0 < d
  · rw [if_pos k1, if_pos k1]
    have : a * d - b * c ≠ 0 := fun q => h ⟨key k1.1 k1.2 q, by grind⟩
    split <;> split <;> omega
  · rw [if_neg k1, if_neg k1]
    by_cases k2 : d ≤ 0 ∧ 0 < b
    · rw [if_pos k2, if_pos k2]
      have : a * d - b * c ≠ 0 := fun q => h ⟨by have := key (a := c) (c := a) k2.1 k2.2 (by grind); grind, by grind⟩
      split <;> split <;> omega
    · rw [if_neg k2, if_neg k2]
theorem wn_Vo {x y : Int} (h : ¬ wn_B X Y n x y) : wn_V X Y n x y = wn_W X Y n x y := by
  refine gm_sm_c fun j j0 j1 => wn_of fun q => h ⟨j, j0, j1, ?_⟩
  obtain ⟨q1, q2⟩ := q
  exact ⟨by grind, by grind⟩
def wn_U (Y : Int → Int) (k : Int) : Int := wn_u (Y (k + 1) - Y k) - wn_u (-(Y (k + 1) - Y k))
/-- the whole border, corners and all -/
theorem wn_bt (hP : WP X Y n) (hA : WA X Y n) (hB : WB X Y) (hn : 3 ≤ n) : gm_sm (fun k => gm_sm (fun t => wn_W X Y n (wn_px X Y X k t) (wn_px X Y Y k t) + wn_V X Y n (wn_px X Y X k t) (wn_px X Y Y k t)) (wn_gd X Y k).toNat) n = gm_sm (fun k => wn_gd X Y k * (2 * wn_R X Y n + 2 * wn_e X Y k + wn_U Y k)) n - 2 * (2 * wn_R X Y n + 1) := by
  have s : ∀ k : Int, 0 ≤ k → gm_sm (fun t => wn_W X Y n (wn_px X Y X k t) (wn_px X Y Y k t) + wn_V X Y n (wn_px X Y X k t) (wn_px X Y Y k t)) (wn_gd X Y k).toNat = (wn_W X Y n (X k) (Y k) + wn_V X Y n (X k) (Y k)) + (wn_gd X Y k * (2 * wn_R X Y n + 2 * wn_e X Y k + wn_U Y k) - (2 * wn_R X Y n + 2 * wn_e X Y k + wn_U Y k)) := by
    intro k k0
    have gp := (wn_gp hB k).1
    obtain ⟨c1, c2, k1, k2, k3⟩ := wn_dd X Y k
    obtain ⟨g, hg⟩ : ∃ g : Nat, (wn_gd X Y k).toNat = g + 1 := ⟨(wn_gd X Y k).toNat - 1, by omega⟩
    have hg2 : wn_gd X Y k = g + 1 := by omega
    obtain ⟨kn, rfl⟩ := Int.eq_ofNat_of_zero_le k0
    have z : wn_px X Y X kn 0 = X kn ∧ wn_px X Y Y kn 0 = Y kn := by rw [(k3 0).1, (k3 0).2, Int.zero_mul, Int.zero_mul]; exact ⟨Int.add_zero _, Int.add_zero _⟩
    rw [hg, gm_sm_h, z.1, z.2, gm_sm_c (g := fun _ => 2 * wn_R X Y n + 2 * wn_e X Y kn + wn_U Y kn) fun t t0 t1 => ?_, gm_sm_k, hg2]
    · grind
    · have := wn_on hP hA hB hn kn (D := wn_gd X Y kn) (m := t + 1) (x := wn_px X Y X kn (t + 1)) (y := wn_px X Y Y kn (t + 1)) (by omega) (by omega) (by rw [(k3 _).1, k1]; grind) (by rw [(k3 _).2, k2]; grind)
      show wn_W _ _ _ _ _ + wn_V _ _ _ _ _ = _
      rw [this.1, this.2]
      unfold wn_U
      omega
  rw [gm_sm_c fun k k0 k1 => s k k0, gm_sm_add, gm_sm_sub]
  have c : gm_sm (fun k => wn_W X Y n (X k) (Y k) + wn_V X Y n (X k) (Y k)) n = gm_sm (fun k => 2 * wn_R X Y n + 2 * wn_e X Y k + wn_U Y k) n - 2 * (2 * wn_R X Y n + 1) := by
    rw [← wn_sh (F := fun k => wn_W X Y n (X k) (Y k) + wn_V X Y n (X k) (Y k)) fun i => by show wn_W X Y n _ _ + wn_V X Y n _ _ = _; rw [(hP i).1, (hP i).2]]
    have hf := wn_hf hP hA hB hn
    have sh := wn_sh (n := n) (F := fun k => wn_u (Y (k + 1) - Y k)) fun i => by show wn_u _ = wn_u _; rw [show i + (n : Int) + 1 = i + 1 + n by omega, (hP _).2, (hP _).2]
    have e : gm_sm (fun k => wn_W X Y n (X (k + 1)) (Y (k + 1)) + wn_V X Y n (X (k + 1)) (Y (k + 1))) n = gm_sm (fun k => ((2 * wn_R X Y n + 2 * wn_e X Y k + wn_U Y k) + (wn_u (Y (k + 1 + 1) - Y (k + 1)) - wn_u (Y (k + 1) - Y k))) - (wn_h X Y (k + 1) + wn_h X Y (k + 1))) n := by
      refine gm_sm_c fun k k0 k1 => ?_
      obtain ⟨kn, rfl⟩ := Int.eq_ofNat_of_zero_le k0
      have a := wn_Wc hP hn (kn + 1)
      have b := wn_Vc hP hA hB hn (kn + 1)
      have r := wn_r2 hP hA hB hn kn
      rw [show ((kn + 1 : Nat) : Int) = (kn : Int) + 1 by omega] at a b
      rw [show (kn : Int) + 1 - 1 = kn by omega] at b
      rw [a, b]
      unfold wn_U
      rw [show -(Y ((kn : Int) + 1) - Y kn) = Y kn - Y (kn + 1) by omega]
      omega
    rw [e, gm_sm_sub, gm_sm_add, gm_sm_sub, gm_sm_add (fun k => wn_h X Y (k + 1)) (fun k => wn_h X Y (k + 1)), hf, sh]
    omega
  rw [c]
  omega
/-- what a side gives -/
theorem wn_fi (hB : WB X Y) (k : Int) : wn_gd X Y k * (2 * wn_R X Y n + 2 * wn_e X Y k + wn_U Y k) = wn_gd X Y k * (2 * wn_R X Y n + 1) + (if Y k = Y (k + 1) then X (k + 1) - X k else 0) := by
  have z := (wn_gp hB k).2
  unfold wn_e wn_d wn_U wn_u
  rcases Int.lt_trichotomy (Y (k + 1) - Y k) 0 with c | c | c
  · rw [if_pos (by omega), if_neg (by omega), if_pos (by omega), if_neg (by omega), Int.add_zero]
    congr 1
    omega
  · have g : wn_gd X Y k = (X (k + 1) - X k).natAbs := by
      unfold wn_gd
      rw [c, Int.gcd_zero_right]
    rw [if_neg (show ¬ 0 < Y (k + 1) - Y k by omega), if_neg (show ¬ 0 < -(Y (k + 1) - Y k) by omega), if_pos (show Y k = Y (k + 1) by omega)]
    by_cases d : 0 < X (k + 1) - X k
    · rw [if_pos (Or.inr ⟨c, d⟩), g, show (((X (k + 1) - X k).natAbs : Nat) : Int) = X (k + 1) - X k by omega]
      grind
    · rw [if_neg (by omega), g, show (((X (k + 1) - X k).natAbs : Nat) : Int) = -(X (k + 1) - X k) by omega]
      grind
  · rw [if_neg (by omega), if_pos (by omega), if_neg (by omega), if_neg (by omega), Int.add_zero]
    congr 1
    omega
theorem wn_t0 {Z : Int → Int} (hZ : Z n = Z 0) : gm_sm (fun k => Z (k + 1) - Z k) n = 0 := by
  have := gm_sm_t Z 0 n
  rw [show (0 : Int) + n = n by omega, hZ] at this
  rw [← Int.sub_self (Z 0), ← this]
  exact gm_sm_c fun t _ _ => by show Z _ - Z _ = Z _ - Z _; rw [show (0 : Int) + t = t by omega]
/-- the area by the points of the field -/
theorem wn_ar (hP : WP X Y n) (hV : ∀ k : Int, (0 ≤ X k ∧ X k < m) ∧ (0 ≤ Y k ∧ Y k < l)) : gm_sm (fun x => gm_sm (fun y => wn_W X Y n x y + wn_V X Y n x y) l) m = gm_sm (fun k => X k * Y (k + 1) - X (k + 1) * Y k) n + gm_sm (fun k => if Y k = Y (k + 1) then X (k + 1) - X k else 0) n := by
  have e : ∀ x y, wn_W X Y n x y + wn_V X Y n x y = gm_sm (fun k => wn_o (X k) (Y k) (X (k + 1)) (Y (k + 1)) x y) n := fun x y => (gm_sm_add _ _ _).symm
  rw [gm_sm_c fun x _ _ => (gm_sm_c fun y _ _ => e x y).trans (gm_sm_sw _ _ _), gm_sm_sw]
  have p := hP 0
  rw [show (0 : Int) + n = n by omega] at p
  have h1 := wn_t0 (n := n) (Z := X) p.1
  have h2 := wn_t0 (n := n) (Z := Y) p.2
  have h3 := wn_t0 (n := n) (Z := fun k => X k * Y k) (by show X n * Y n = X 0 * Y 0; rw [p.1, p.2])
  have f : gm_sm (fun k => gm_sm (fun x => gm_sm (fun y => wn_o (X k) (Y k) (X (k + 1)) (Y (k + 1)) x y) l) m) n = gm_sm (fun k => (((X k * Y (k + 1) - X (k + 1) * Y k) + (if Y k = Y (k + 1) then X (k + 1) - X k else 0)) + (X (k + 1) * Y (k + 1) - X k * Y k)) + ((Y (k + 1) - Y k) - (X (k + 1) - X k))) n := by
    refine gm_sm_c fun k _ _ => ?_
    rw [gm_sm_sw, wn_sd (hV k).1 (hV (k + 1)).1 (hV k).2 (hV (k + 1)).2]
    grind
  rw [f, gm_sm_add, gm_sm_add, gm_sm_add, gm_sm_sub (fun k => Y (k + 1) - Y k) (fun k => X (k + 1) - X k), h1, h2]
  rw [show gm_sm (fun k => X (k + 1) * Y (k + 1) - X k * Y k) n = 0 from h3]
  omega
/-- Pick -/
theorem wn_pick (hP : WP X Y n) (hA : WA X Y n) (hB : WB X Y) (hn : 3 ≤ n) (hV : ∀ k : Int, (0 ≤ X k ∧ X k < m) ∧ (0 ≤ Y k ∧ Y k < l)) (I J : Int → Int → Int) (hI : ∀ x y : Int, 0 ≤ x → x < m → 0 ≤ y → y < l → (wn_B X Y n x y → I x y = 1) ∧ (¬ wn_B X Y n x y → I x y = 0)) (hJ : ∀ x y : Int, 0 ≤ x → x < m → 0 ≤ y → y < l → (wn_B X Y n x y → J x y = 0) ∧ (¬ wn_B X Y n x y → J x y = if wn_W X Y n x y = 0 then 0 else 1)) :
    gm_sm (wn_gd X Y) n = gm_sm (fun x => gm_sm (I x) l) m ∧ gm_sm (fun k => X k * Y (k + 1) - X (k + 1) * Y k) n = (2 * wn_R X Y n + 1) * (2 * gm_sm (fun x => gm_sm (J x) l) m + gm_sm (wn_gd X Y) n - 2) := by
  constructor
  · rw [show gm_sm (fun x => gm_sm (I x) l) m = gm_sm (fun x => gm_sm (fun y => I x y) l) m from rfl, wn_bs hP hA hB hn hV (fun _ _ => 1) I hI]
    refine gm_sm_c fun k _ _ => ?_
    have := (wn_gp hB k).1
    rw [gm_sm_k]
    omega
  · have a := wn_ar (l := l) (m := m) hP hV
    have b := wn_bt hP hA hB hn
    rw [gm_sm_c (f := fun k => wn_gd X Y k * (2 * wn_R X Y n + 2 * wn_e X Y k + wn_U Y k)) fun k _ _ => wn_fi hB k, gm_sm_add, ← wn_bs hP hA hB hn hV (fun x y => wn_W X Y n x y + wn_V X Y n x y) (fun x y => wn_W X Y n x y + wn_V X Y n x y - (2 * wn_R X Y n + 1) * (2 * J x y)) fun x y x0 x1 y0 y1 => ?_] at b
    · rw [gm_sm_c fun x _ _ => gm_sm_sub (fun y => wn_W X Y n x y + wn_V X Y n x y) (fun y => (2 * wn_R X Y n + 1) * (2 * J x y)) l, gm_sm_sub, a] at b
      have mul : ∀ (c : Int) (f : Int → Int) (m : Nat), gm_sm (fun t => c * f t) m = c * gm_sm f m := by
        intro c f m
        induction m with
        | zero => exact (Int.mul_zero c).symm
        | succ m ih => rw [gm_sm_l, gm_sm_l, ih, Int.mul_add]
      rw [gm_sm_c (f := fun x => gm_sm (fun y => (2 * wn_R X Y n + 1) * (2 * J x y)) l) (g := fun x => (2 * wn_R X Y n + 1) * (2 * gm_sm (J x) l)) fun x _ _ => by show gm_sm _ _ = _; rw [mul, mul], mul, mul, gm_sm_c (f := fun k => wn_gd X Y k * (2 * wn_R X Y n + 1)) (g := fun k => (2 * wn_R X Y n + 1) * wn_gd X Y k) fun k _ _ => Int.mul_comm _ _, mul] at b
      grind
    · have j := hJ x y x0 x1 y0 y1
      constructor
      · intro c
        rw [j.1 c]
        omega
      · intro c
        show wn_W X Y n x y + wn_V X Y n x y - (2 * wn_R X Y n + 1) * (2 * J x y) = 0
        rw [j.2 c, wn_Vo c]
        rcases wn_in hP hA hB hn x y with w | w
        · rw [if_pos w, w]; omega
        · rw [if_neg (by omega), w]; omega
end PM
/-! Pick's theorem for the polygons of a board -/
theorem gm_md {n i d : Int} (hn : 0 < n) (d0 : 0 ≤ d) (d1 : d < n) : (i + d) % n = if i % n + d < n then i % n + d else i % n + d - n := by
  have h1 := Int.emod_nonneg i (show n ≠ 0 by omega)
  have h2 := Int.emod_lt_of_pos i hn
  have h3 := Int.emod_add_mul_ediv i n
  split
  · refine ((Int.ediv_emod_unique hn (r := i % n + d) (q := i / n)).mpr ⟨by omega, by omega, by omega⟩).2
  · refine ((Int.ediv_emod_unique hn (r := i % n + d - n) (q := i / n + 1)).mpr ⟨by rw [Int.mul_add, Int.mul_one]; omega, by omega, by omega⟩).2
theorem gm_md1 {n i : Int} (hn : 1 < n) : (i + 1) % n = gm_nx n (i % n) := by
  have h2 := Int.emod_lt_of_pos i (show 0 < n by omega)
  rw [gm_md (by omega) (by omega) (by omega)]
  unfold gm_nx
  split <;> omega
/-- between two sides apart a line can be drawn -/
theorem wn_sep {ax ay bx by' cx cy dx dy : Int} (hab : bx ≠ ax ∨ by' ≠ ay) (hcd : dx ≠ cx ∨ dy ≠ cy) (hc : ¬ gm_we ax ay bx by' cx cy) (hd : ¬ gm_we ax ay bx by' dx dy) (h : ¬ gm_mt ax ay bx by' cx cy dx dy) : ∃ p q, 0 < p * (cx - ax) + q * (cy - ay) ∧ 0 < p * (dx - ax) + q * (dy - ay) ∧ 0 < p * (cx - bx) + q * (cy - by') ∧ 0 < p * (dx - bx) + q * (dy - by') := by
  rw [gm_mt_nb hab hcd hc hd] at h
  by_cases b : gm_bp ax bx cx dx ∨ gm_bp ay by' cy dy
  · rcases b with b | b <;> unfold gm_bp gm_hi gm_lo at b
    · by_cases c : cx < ax
      · exact ⟨-1, 0, by split at b <;> split at b <;> omega, by split at b <;> split at b <;> omega, by split at b <;> split at b <;> omega, by split at b <;> split at b <;> omega⟩
      · exact ⟨1, 0, by split at b <;> split at b <;> omega, by split at b <;> split at b <;> omega, by split at b <;> split at b <;> omega, by split at b <;> split at b <;> omega⟩
    · by_cases c : cy < ay
      · exact ⟨0, -1, by split at b <;> split at b <;> omega, by split at b <;> split at b <;> omega, by split at b <;> split at b <;> omega, by split at b <;> split at b <;> omega⟩
      · exact ⟨0, 1, by split at b <;> split at b <;> omega, by split at b <;> split at b <;> omega, by split at b <;> split at b <;> omega, by split at b <;> split at b <;> omega⟩
  · by_cases c : gm_turn ax ay bx by' cx cy * gm_turn ax ay bx by' dx dy ≤ 0
    · have e : 0 < gm_turn cx cy dx dy ax ay * gm_turn cx cy dx dy bx by' := Int.not_le.mp fun k => h ⟨b, c, k⟩
      unfold gm_turn at e
      rcases wn_pos e with ⟨e1, e2⟩ | ⟨e1, e2⟩
      · exact ⟨dy - cy, -(dx - cx), by grind, by grind, by grind, by grind⟩
      · exact ⟨-(dy - cy), dx - cx, by grind, by grind, by grind, by grind⟩
    · have e := Int.not_le.mp c
      unfold gm_turn at e
      rcases wn_pos e with ⟨e1, e2⟩ | ⟨e1, e2⟩
      · exact ⟨-(by' - ay), bx - ax, by grind, by grind, by grind, by grind⟩
      · exact ⟨by' - ay, -(bx - ax), by grind, by grind, by grind, by grind⟩
/-- sides that follow: no way back -/
theorem wn_fv {u v s t : Int} (n1 : 0 < u * u + v * v) (n2 : 0 < s * s + t * t) (h2 : u * t = v * s → 0 ≤ u * s + v * t) : ∃ p q, 0 < p * u + q * v ∧ 0 < p * s + q * t := by
  rcases Int.lt_trichotomy (u * t - v * s) 0 with c | c | c
  · refine ⟨-(t - v), -(u - s), by grind, by grind⟩
  · refine ⟨u, v, n1, ?_⟩
    have d2 := h2 (by omega)
    refine Int.not_le.mp fun k => ?_
    have z : u * s + v * t = 0 := by omega
    have q := Int.mul_pos n1 n2
    have e : (u * u + v * v) * (s * s + t * t) = (u * s + v * t) * (u * s + v * t) + (u * t - v * s) * (u * t - v * s) := by grind
    rw [z, c, Int.zero_mul, Int.add_zero] at e
    omega
  · refine ⟨t - v, u - s, by grind, by grind⟩
theorem wn_fo {ax ay bx by' cx cy : Int} (hab : bx ≠ ax ∨ by' ≠ ay) (hbc : cx ≠ bx ∨ cy ≠ by') (h : ¬ gm_mt ax ay bx by' bx by' cx cy) : ∃ p q, 0 < p * (bx - ax) + q * (by' - ay) ∧ 0 < p * (cx - bx) + q * (cy - by') := by
  have h2 : ¬ gm_al bx by' ax ay cx cy := fun k => h (gm_mt_ws ((gm_mt_al (by omega) hbc).mpr k))
  refine wn_fv (gm_nn (by omega)) (gm_nn (by omega)) fun e => Int.not_lt.mp fun k => h2 ⟨?_, ?_⟩
  · rw [show ax - bx = -(bx - ax) by omega, show ay - by' = -(by' - ay) by omega, Int.neg_mul, Int.neg_mul, e]
  · rw [show ax - bx = -(bx - ax) by omega, show ay - by' = -(by' - ay) by omega, Int.neg_mul, Int.neg_mul]
    omega
section PG
variable {n : Int} {xs ys : Int → Int}
theorem gm_poly (hn : 3 ≤ n) (hd : ∀ i j, 0 ≤ i → i < n → 0 ≤ j → j < n → i ≠ j → xs j ≠ xs i ∨ ys j ≠ ys i) (hG : GQ n 1 xs ys) : WP (fun k => xs (k % n)) (fun k => ys (k % n)) n.toNat ∧ WA (fun k => xs (k % n)) (fun k => ys (k % n)) n.toNat ∧ WB (fun k => xs (k % n)) (fun k => ys (k % n)) := by
  have e : (n.toNat : Int) = n := by omega
  have r : ∀ i : Int, 0 ≤ i % n ∧ i % n < n := fun i => ⟨Int.emod_nonneg i (by omega), Int.emod_lt_of_pos i (by omega)⟩
  have nr : ∀ i, 0 ≤ i → i < n → 0 ≤ gm_nx n i ∧ gm_nx n i < n ∧ gm_nx n i ≠ i := fun i i0 i1 => by unfold gm_nx; split <;> omega
  have n1 : gm_ns n 1 = n := if_neg (by omega)
  refine ⟨fun i => ?_, fun i j h1 h2 => ?_, fun i => ?_⟩
  · show xs ((i + n.toNat) % n) = xs (i % n) ∧ ys ((i + n.toNat) % n) = ys (i % n)
    rw [e, Int.add_emod_right]
    exact ⟨rfl, rfl⟩
  · unfold wn_l
    rw [e] at h2
    have a := gm_md1 (i := i) (n := n) (by omega)
    have b := gm_md1 (i := j) (n := n) (by omega)
    have c := gm_md (n := n) (i := i) (d := j - i) (by omega) (by omega) (by omega)
    rw [show i + (j - i) = j by omega] at c
    have ri := r i
    have rj := r j
    have ni := nr _ ri.1 ri.2
    have nj := nr _ rj.1 rj.2
    show ∃ p q, 0 < p * (xs (j % n) - xs (i % n)) + q * (ys (j % n) - ys (i % n)) ∧ 0 < p * (xs ((j + 1) % n) - xs (i % n)) + q * (ys ((j + 1) % n) - ys (i % n)) ∧ 0 < p * (xs (j % n) - xs ((i + 1) % n)) + q * (ys (j % n) - ys ((i + 1) % n)) ∧ 0 < p * (xs ((j + 1) % n) - xs ((i + 1) % n)) + q * (ys ((j + 1) % n) - ys ((i + 1) % n))
    rw [a, b]
    generalize i % n = i' at *
    generalize j % n = j' at *
    have k1 : j' ≠ i' := by split at c <;> omega
    have k2 : gm_nx n i' ≠ j' := by unfold gm_nx; split at c <;> split <;> omega
    have k3 : gm_nx n j' ≠ i' := by unfold gm_nx; split at c <;> split <;> omega
    have k4 : gm_nx n j' ≠ gm_nx n i' := by unfold gm_nx; split <;> split <;> omega
    have m := hG.ne ri.1 (by omega) rj.1 (by omega) (Ne.symm k1)
    refine wn_sep (hd _ _ ri.1 ri.2 ni.1 ni.2.1 (Ne.symm ni.2.2)) (hd _ _ rj.1 rj.2 nj.1 nj.2.1 (Ne.symm nj.2.2)) ?_ ?_ m
    · have u1 := hd _ _ ri.1 ri.2 rj.1 rj.2 (Ne.symm k1)
      have u2 := hd _ _ ni.1 ni.2.1 rj.1 rj.2 k2
      unfold gm_we
      omega
    · have u1 := hd _ _ ri.1 ri.2 nj.1 nj.2.1 (Ne.symm k3)
      have u2 := hd _ _ ni.1 ni.2.1 nj.1 nj.2.1 (Ne.symm k4)
      unfold gm_we
      omega
  · unfold wn_l
    have a := gm_md1 (i := i) (n := n) (by omega)
    have b := gm_md1 (i := i + 1) (n := n) (by omega)
    rw [show i + 1 + 1 = i + 2 by omega, a] at b
    have ri := r i
    have ni := nr _ ri.1 ri.2
    have nj := nr _ ni.1 ni.2.1
    show ∃ p q, 0 < p * (xs ((i + 1) % n) - xs (i % n)) + q * (ys ((i + 1) % n) - ys (i % n)) ∧ 0 < p * (xs ((i + 2) % n) - xs ((i + 1) % n)) + q * (ys ((i + 2) % n) - ys ((i + 1) % n))
    rw [a, b]
    exact wn_fo (hd _ _ ri.1 ri.2 ni.1 ni.2.1 (Ne.symm ni.2.2)) (hd _ _ ni.1 ni.2.1 nj.1 nj.2.1 (Ne.symm nj.2.2)) (hG.ne ri.1 (by omega) ni.1 (by omega) (Ne.symm ni.2.2))
theorem gm_per (hn : 3 ≤ n) {k : Int} (k0 : 0 ≤ k) (k1 : k < n) : k % n = k ∧ (k + 1) % n = gm_nx n k := by
  have := Int.emod_eq_of_lt k0 k1
  refine ⟨this, ?_⟩
  rw [gm_md1 (by omega), this]
theorem gm_onB (hn : 3 ≤ n) {x y : Int} : wn_B (fun k => xs (k % n)) (fun k => ys (k % n)) n.toNat x y ↔ gm_os n n xs ys x y := by
  unfold wn_B gm_os gm_sd
  constructor
  · rintro ⟨k, k0, k1, h⟩
    have k1 : k < n := by omega
    refine ⟨k, k0, k1, ?_⟩
    simp only [(gm_per hn k0 k1).1, (gm_per hn k0 k1).2] at h
    exact h
  · rintro ⟨k, k0, k1, h⟩
    refine ⟨k, k0, by omega, ?_⟩
    simp only [(gm_per hn k0 k1).1, (gm_per hn k0 k1).2]
    exact h
theorem wn_cx {a b c d x y : Int} : wn_s (a - x) (b - y) (c - x) (d - y) % 2 = 1 ↔ ((y < b ↔ ¬ y < d) ∧ if y < d then 0 < gm_turn a b c d x y else gm_turn a b c d x y < 0) := by
  have e : (a - x) * (d - y) - (b - y) * (c - x) = gm_turn a b c d x y := by unfold gm_turn; grind
  unfold wn_s
  rw [e]
  generalize gm_turn a b c d x y = z
  by_cases k1 : b - y ≤ 0 ∧ 0 < d - y
  · rw [if_pos k1, if_pos (show y < d by omega)]
    split <;> omega
  · rw [if_neg k1]
    by_cases k2 : d - y ≤ 0 ∧ 0 < b - y
    · rw [if_pos k2, if_neg (show ¬ y < d by omega)]
      split <;> omega
    · rw [if_neg k2]
      omega
theorem gm_odW (hn : 3 ≤ n) {x y : Int} : gm_od n xs ys x y n.toNat ↔ wn_W (fun k => xs (k % n)) (fun k => ys (k % n)) n.toNat x y % 2 = 1 := by
  unfold wn_W
  have : ∀ m : Nat, (m : Int) ≤ n → (gm_od n xs ys x y m ↔ gm_sm (fun j => wn_s (xs (j % n) - x) (ys (j % n) - y) (xs ((j + 1) % n) - x) (ys ((j + 1) % n) - y)) m % 2 = 1) := by
    intro m
    induction m with
    | zero => intro _; exact ⟨fun h => h.elim, fun h => absurd (show (0 : Int) % 2 = 1 from h) (by decide)⟩
    | succ m ih =>
      intro hm
      have ih := ih (by omega)
      have p := gm_per hn (k := m) (by omega) (by omega)
      have c := wn_cx (a := xs m) (b := ys m) (c := xs (gm_nx n m)) (d := ys (gm_nx n m)) (x := x) (y := y)
      rw [gm_sm_l, p.1, p.2]
      have d : gm_cx n xs ys x y m ↔ wn_s (xs m - x) (ys m - y) (xs (gm_nx n m) - x) (ys (gm_nx n m) - y) % 2 = 1 := c.symm
      show (¬ (gm_od n xs ys x y m ↔ gm_cx n xs ys x y m)) ↔ _
      rw [ih, d]
      omega
  exact this n.toNat (by omega)
/-- sums by the sides are sums by counted points -/
theorem gm_pick_p {w h : Int} (hn : 3 ≤ n) (hw : 0 ≤ w) (hh : 0 ≤ h) (hd : ∀ i j, 0 ≤ i → i < n → 0 ≤ j → j < n → i ≠ j → xs j ≠ xs i ∨ ys j ≠ ys i) (hG : GQ n 1 xs ys) (hv : ∀ k, 0 ≤ k → k < n → (0 ≤ xs k ∧ xs k ≤ w) ∧ (0 ≤ ys k ∧ ys k ≤ h)) : gm_bo n xs ys = gm_sm (fun x => gm_sm (fun y => gm_ite (gm_si 1 n xs ys x y) 1 0) (h + 1).toNat) (w + 1).toNat ∧ gm_inn n xs ys = gm_sm (fun x => gm_sm (fun y => gm_ite (gm_si 2 n xs ys x y) 1 0) (h + 1).toNat) (w + 1).toNat ∧ gm_abs (gm_ar n xs ys) = 2 * gm_sm (fun x => gm_sm (fun y => gm_ite (gm_si 2 n xs ys x y) 1 0) (h + 1).toNat) (w + 1).toNat + gm_bo n xs ys - 2 := by
  obtain ⟨hP, hA, hB⟩ := gm_poly hn hd hG
  have e : (n.toNat : Int) = n := by omega
  have rr : ∀ i : Int, 0 ≤ i % n ∧ i % n < n := fun i => ⟨Int.emod_nonneg i (by omega), Int.emod_lt_of_pos i (by omega)⟩
  have R := wn_r0 hP hA hB (by omega)
  obtain ⟨p1, p2⟩ := wn_pick (m := (w + 1).toNat) (l := (h + 1).toNat) hP hA hB (by omega) (fun k => by
      have := hv _ (rr k).1 (rr k).2
      show (0 ≤ xs (k % n) ∧ xs (k % n) < _) ∧ (0 ≤ ys (k % n) ∧ ys (k % n) < _)
      omega) (fun x y => gm_ite (gm_si 1 n xs ys x y) 1 0) (fun x y => gm_ite (gm_si 2 n xs ys x y) 1 0) (fun x y _ _ _ _ => by
      rw [gm_onB hn]
      constructor
      · exact fun c => gm_ite_t (Or.inl ⟨rfl, c⟩)
      · refine fun c => gm_ite_f ?_
        rintro (⟨a, b⟩ | ⟨a, -⟩ | ⟨a, -⟩)
        · exact c b
        · omega
        · omega) (fun x y _ _ _ _ => by
      rw [gm_onB hn]
      constructor
      · refine fun c => gm_ite_f ?_
        rintro (⟨a, -⟩ | ⟨-, a, -⟩ | ⟨a, -⟩)
        · omega
        · exact a c
        · omega
      · intro c
        have o := gm_odW hn (xs := xs) (ys := ys) (x := x) (y := y)
        have wi := wn_in hP hA hB (by omega) x y
        by_cases z : wn_W (fun k => xs (k % n)) (fun k => ys (k % n)) n.toNat x y = 0
        · rw [if_pos z]
          refine gm_ite_f ?_
          rintro (⟨a, -⟩ | ⟨-, -, a⟩ | ⟨a, -⟩)
          · omega
          · have := o.mp a
            omega
          · omega
        · rw [if_neg z]
          exact gm_ite_t (Or.inr (Or.inl ⟨rfl, c, o.mpr (by omega)⟩)))
  have b1 : gm_bo n xs ys = gm_sm (wn_gd (fun k => xs (k % n)) (fun k => ys (k % n))) n.toNat := gm_sm_c fun k k0 k1 => by
    have p := gm_per hn k0 (by omega)
    unfold gm_st wn_gd
    simp only [p.1, p.2]
  have b2 : gm_ar n xs ys = gm_sm (fun k => xs (k % n) * ys ((k + 1) % n) - xs ((k + 1) % n) * ys (k % n)) n.toNat := gm_sm_c fun k k0 k1 => by
    have p := gm_per hn k0 (by omega)
    unfold gm_cr2
    rw [p.1, p.2]
  refine ⟨b1.trans p1, ?_⟩
  have I0 : 0 ≤ gm_sm (fun x => gm_sm (fun y => gm_ite (gm_si 2 n xs ys x y) 1 0) (h + 1).toNat) (w + 1).toNat := by
    have nn : ∀ {f : Int → Int} {m : Nat}, (∀ k, 0 ≤ f k) → 0 ≤ gm_sm f m := by
      intro f m hf
      induction m with
      | zero => exact Int.le_refl 0
      | succ m ih => have := hf m; rw [gm_sm_l]; omega
    refine nn fun x => nn fun y => ?_
    by_cases c : gm_si 2 n xs ys x y
    · rw [gm_ite_t c]; omega
    · rw [gm_ite_f c]; omega
  have B0 : n ≤ gm_bo n xs ys := by
    have : ∀ m : Nat, (m : Int) ≤ gm_sm (wn_gd (fun k => xs (k % n)) (fun k => ys (k % n))) m := by
      intro m
      induction m with
      | zero => exact Int.le_refl 0
      | succ m ih => have := (wn_gp hB m).1; rw [gm_sm_l]; omega
    have := this n.toNat
    rw [← b1] at this
    omega
  rw [← b1, ← b2] at p2
  unfold gm_inn
  generalize gm_sm (fun x => gm_sm (fun y => gm_ite (gm_si 2 n xs ys x y) 1 0) (h + 1).toNat) (w + 1).toNat = I at *
  generalize gm_bo n xs ys = B at *
  have ab : gm_abs (gm_ar n xs ys) = 2 * I + B - 2 := by
    rw [p2]
    unfold gm_abs
    rcases R with r | r
    · rw [r, show (2 * (0 : Int) + 1) * (2 * I + B - 2) = 2 * I + B - 2 by omega, if_pos (by omega)]
    · rw [r, show (2 * (-1 : Int) + 1) * (2 * I + B - 2) = -(2 * I + B - 2) by omega, if_neg (by omega)]
      omega
  refine ⟨?_, ab⟩
  rw [ab, show 2 * I + B - 2 - B + 2 = I * 2 by omega]
  exact Int.mul_tdiv_cancel _ (by decide)
end PG
theorem gm_pick_D {D : Int → Int} (hD : VD D) (hE : VE D) (hG : GV D) {p : Int} (p0 : 0 ≤ p) (p1 : p < D 3) (hc : pC D p = 1) : gm_bo (pN D p) (pX D p) (pY D p) = gm_ca D p 1 ∧ gm_inn (pN D p) (pX D p) (pY D p) = gm_ca D p 2 ∧ gm_arD D p = 2 * gm_ca D p 2 + gm_bo (pN D p) (pX D p) (pY D p) - 2 := by
  have v := hD.2.2.2.2.2 p p0 p1
  have g := hG.q p0 p1
  rw [hc] at g
  have d0 := hD.1
  have d1 := hD.2.1
  have v2 := v.2.2.1
  exact gm_pick_p (w := D 0) (h := D 1) (by omega) (by omega) (by omega) (fun i j i0 i1 j0 j1 e => hE.ne p0 p1 i0 i1 j0 j1 e) g v.2.2.2
