/-! What polygons are, in numbers (no machine here). -/
def gm_turn (ax ay bx by' px py : Int) : Int := (bx - ax) * (py - ay) - (by' - ay) * (px - ax)
/-- on the line from A to B -/
def gm_on (ax ay bx by' px py : Int) : Prop := (ax - px) * (bx - px) + (ay - py) * (by' - py) ≤ 0 ∧ (bx - ax) * (py - ay) = (by' - ay) * (px - ax)
def am_c (z : Int) : Prop := 0 ≤ z ∧ z ≤ 30
theorem am_mul30 {a b : Int} (h1 : -30 ≤ a) (h2 : a ≤ 30) (h3 : -30 ≤ b) (h4 : b ≤ 30) : -900 ≤ a * b ∧ a * b ≤ 900 := by
  have e1 : 0 ≤ (30 - a) * (30 - b) := Int.mul_nonneg (by omega) (by omega)
  have e2 : 0 ≤ (30 + a) * (30 + b) := Int.mul_nonneg (by omega) (by omega)
  have e3 : 0 ≤ (30 - a) * (30 + b) := Int.mul_nonneg (by omega) (by omega)
  have e4 : 0 ≤ (30 + a) * (30 - b) := Int.mul_nonneg (by omega) (by omega)
  rw [Int.sub_mul, Int.mul_sub, Int.mul_sub] at e1
  rw [Int.add_mul, Int.mul_add, Int.mul_add] at e2
  rw [Int.sub_mul, Int.mul_add, Int.mul_add] at e3
  rw [Int.add_mul, Int.mul_sub, Int.mul_sub] at e4
  omega
theorem am_c30 {a b : Int} (ha : am_c a) (hb : am_c b) : -30 ≤ a - b ∧ a - b ≤ 30 := ⟨by have := ha.1; have := hb.2; omega, by have := ha.2; have := hb.1; omega⟩
theorem am_cc {a b c e : Int} (ha : am_c a) (hb : am_c b) (hc : am_c c) (he : am_c e) : -900 ≤ (a - b) * (c - e) ∧ (a - b) * (c - e) ≤ 900 := am_mul30 (am_c30 ha hb).1 (am_c30 ha hb).2 (am_c30 hc he).1 (am_c30 hc he).2
theorem am_cm {a b : Int} (ha : am_c a) (hb : am_c b) : 0 ≤ a * b ∧ a * b ≤ 900 := ⟨Int.mul_nonneg ha.1 hb.1, (am_mul30 (by have := ha.1; omega) ha.2 (by have := hb.1; omega) hb.2).2⟩
theorem gm_turn_r {ax ay bx by' px py : Int} (h1 : am_c ax) (h2 : am_c ay) (h3 : am_c bx) (h4 : am_c by') (h5 : am_c px) (h6 : am_c py) : -1800 ≤ gm_turn ax ay bx by' px py ∧ gm_turn ax ay bx by' px py ≤ 1800 := by
  have e1 := am_cc h3 h1 h6 h2
  have e2 := am_cc h4 h2 h5 h1
  unfold gm_turn
  omega
/-- the place behind, and the place before -/
def gm_nx (n k : Int) : Int := if k + 1 < n then k + 1 else 0
def gm_pv (n k : Int) : Int := if 0 < k then k - 1 else n - 1
theorem gm_nx_r {n k : Int} (h0 : 0 ≤ k) (h1 : k < n) : 0 ≤ gm_nx n k ∧ gm_nx n k < n := by unfold gm_nx; split <;> omega
theorem gm_pv_r {n k : Int} (h0 : 0 ≤ k) (h1 : k < n) : 0 ≤ gm_pv n k ∧ gm_pv n k < n := by unfold gm_pv; split <;> omega
def gm_sm (f : Int → Int) : Nat → Int
  | 0 => 0
  | k + 1 => gm_sm f k + f k
theorem gm_sm_s (f : Int → Int) {i : Int} (h : 0 ≤ i) : gm_sm f (i + 1).toNat = gm_sm f i.toNat + f i := by
  obtain ⟨k, rfl⟩ := Int.eq_ofNat_of_zero_le h
  show gm_sm f ((k : Int) + 1).toNat = _
  rw [show ((k : Int) + 1).toNat = k + 1 by omega]
  rfl
theorem gm_sm_0 (f : Int → Int) : gm_sm f (0 : Int).toNat = 0 := rfl
theorem gm_sm_le {f : Int → Int} {B : Int} : ∀ {m : Nat}, (∀ k : Int, 0 ≤ k → k < m → -B ≤ f k ∧ f k ≤ B) → -(m * B) ≤ gm_sm f m ∧ gm_sm f m ≤ m * B
  | 0, _ => by simp [gm_sm]
  | m + 1, h => by
    have h1 := gm_sm_le (m := m) fun k h0 h1 => h k h0 (by omega)
    have h2 := h m (by omega) (by omega)
    have e : ((m + 1 : Nat) : Int) * B = m * B + B := by rw [Int.natCast_succ, Int.add_mul, Int.one_mul]
    rw [e]
    simp only [gm_sm]
    omega
theorem gm_sm_c {f g : Int → Int} : ∀ {m : Nat}, (∀ k : Int, 0 ≤ k → k < m → f k = g k) → gm_sm f m = gm_sm g m
  | 0, _ => rfl
  | m + 1, h => by
    simp only [gm_sm]
    rw [gm_sm_c (m := m) fun k h0 h1 => h k h0 (by omega), h m (by omega) (by omega)]
/-- a polygon: a corner there; a point on one of its first m sides -/
def gm_hc (n : Int) (xs ys : Int → Int) (x y : Int) : Prop := ∃ k, 0 ≤ k ∧ k < n ∧ xs k = x ∧ ys k = y
def gm_sd (n : Int) (xs ys : Int → Int) (x y k : Int) : Prop := gm_on (xs k) (ys k) (xs (gm_nx n k)) (ys (gm_nx n k)) x y
def gm_os (m n : Int) (xs ys : Int → Int) (x y : Int) : Prop := ∃ k, 0 ≤ k ∧ k < m ∧ gm_sd n xs ys x y k
def gm_ns (n cl : Int) : Int := if cl = 0 then n - 1 else n
def gm_cr2 (n : Int) (xs ys : Int → Int) (k : Int) : Int := xs k * ys (gm_nx n k) - xs (gm_nx n k) * ys k
/-- twice the area, with a sign -/
def gm_ar (n : Int) (xs ys : Int → Int) : Int := gm_sm (gm_cr2 n xs ys) n.toNat
def gm_abs (z : Int) : Int := if 0 ≤ z then z else -z
def gm_st (n : Int) (xs ys : Int → Int) (k : Int) : Int := (Int.gcd (xs (gm_nx n k) - xs k) (ys (gm_nx n k) - ys k) : Int)
def gm_bo (n : Int) (xs ys : Int → Int) : Int := gm_sm (gm_st n xs ys) n.toNat
def gm_tn (n : Int) (xs ys : Int → Int) (k : Int) : Int := gm_turn (xs (gm_pv n k)) (ys (gm_pv n k)) (xs k) (ys k) (xs (gm_nx n k)) (ys (gm_nx n k))
def gm_de1 (n : Int) (xs ys : Int → Int) (k : Int) : Int := if 0 < gm_ar n xs ys then (if gm_tn n xs ys k < 0 then 1 else 0) else (if 0 < gm_tn n xs ys k then 1 else 0)
def gm_de (n : Int) (xs ys : Int → Int) : Int := gm_sm (gm_de1 n xs ys) n.toNat
/-- the way to the right crosses side k -/
def gm_cx (n : Int) (xs ys : Int → Int) (x y k : Int) : Prop := (y < ys k ↔ ¬ y < ys (gm_nx n k)) ∧ if y < ys (gm_nx n k) then 0 < gm_turn (xs k) (ys k) (xs (gm_nx n k)) (ys (gm_nx n k)) x y else gm_turn (xs k) (ys k) (xs (gm_nx n k)) (ys (gm_nx n k)) x y < 0
/-- how many of the first m sides it crosses: odd -/
def gm_od (n : Int) (xs ys : Int → Int) (x y : Int) : Nat → Prop
  | 0 => False
  | k + 1 => ¬ (gm_od n xs ys x y k ↔ gm_cx n xs ys x y k)
theorem gm_od_s {n : Int} {xs ys : Int → Int} {x y i : Int} (h : 0 ≤ i) : gm_od n xs ys x y (i + 1).toNat ↔ ¬ (gm_od n xs ys x y i.toNat ↔ gm_cx n xs ys x y i) := by
  obtain ⟨k, rfl⟩ := Int.eq_ofNat_of_zero_le h
  show gm_od n xs ys x y ((k : Int) + 1).toNat ↔ _
  rw [show ((k : Int) + 1).toNat = k + 1 by omega]
  exact Iff.rfl
/-- 0 outside, 1 on the border, 2 inside -/
def gm_si (z : Int) (n : Int) (xs ys : Int → Int) (x y : Int) : Prop := (z = 1 ∧ gm_os n n xs ys x y) ∨ (z = 2 ∧ ¬ gm_os n n xs ys x y ∧ gm_od n xs ys x y n.toNat) ∨ (z = 0 ∧ ¬ gm_os n n xs ys x y ∧ ¬ gm_od n xs ys x y n.toNat)
def VC (n : Int) (xs ys : Int → Int) : Prop := ∀ k, 0 ≤ k → k < n → am_c (xs k) ∧ am_c (ys k)
theorem gm_cr2_r {n : Int} {xs ys : Int → Int} (hV : VC n xs ys) {k : Int} (h0 : 0 ≤ k) (h1 : k < n) : -900 ≤ gm_cr2 n xs ys k ∧ gm_cr2 n xs ys k ≤ 900 := by
  have q := gm_nx_r h0 h1
  have v1 := hV k h0 h1
  have v2 := hV _ q.1 q.2
  have e1 := am_cm v1.1 v2.2
  have e2 := am_cm v2.1 v1.2
  unfold gm_cr2
  omega
theorem gm_ar_r {n : Int} {xs ys : Int → Int} (hV : VC n xs ys) (h0 : 0 ≤ n) (h1 : n ≤ 12) : -10800 ≤ gm_ar n xs ys ∧ gm_ar n xs ys ≤ 10800 := by
  have := gm_sm_le (f := gm_cr2 n xs ys) (B := 900) (m := n.toNat) fun k q0 q1 => gm_cr2_r hV q0 (by omega)
  unfold gm_ar
  omega
theorem gm_st_r {n : Int} {xs ys : Int → Int} (hV : VC n xs ys) {k : Int} (h0 : 0 ≤ k) (h1 : k < n) : -30 ≤ gm_st n xs ys k ∧ gm_st n xs ys k ≤ 30 := by
  have q := gm_nx_r h0 h1
  have v1 := hV k h0 h1
  have v2 := hV _ q.1 q.2
  unfold gm_st
  have e1 := am_c30 v2.1 v1.1
  have e2 := am_c30 v2.2 v1.2
  have g1 := Int.gcd_dvd_left (a := xs (gm_nx n k) - xs k) (b := ys (gm_nx n k) - ys k)
  have g2 := Int.gcd_dvd_right (a := xs (gm_nx n k) - xs k) (b := ys (gm_nx n k) - ys k)
  generalize xs (gm_nx n k) - xs k = a at *
  generalize ys (gm_nx n k) - ys k = b at *
  by_cases ha : a = 0
  · by_cases hb : b = 0
    · subst ha; subst hb; simp
    · have := Int.le_of_dvd (a := (Int.gcd a b : Int)) (b := (b.natAbs : Int)) (by omega) (Int.dvd_natAbs.mpr g2)
      omega
  · have := Int.le_of_dvd (a := (Int.gcd a b : Int)) (b := (a.natAbs : Int)) (by omega) (Int.dvd_natAbs.mpr g1)
    omega
theorem gm_bo_r {n : Int} {xs ys : Int → Int} (hV : VC n xs ys) (h0 : 0 ≤ n) (h1 : n ≤ 12) : -360 ≤ gm_bo n xs ys ∧ gm_bo n xs ys ≤ 360 := by
  have := gm_sm_le (f := gm_st n xs ys) (B := 30) (m := n.toNat) fun k q0 q1 => gm_st_r hV q0 (by omega)
  unfold gm_bo
  omega
theorem gm_abs_r {z B : Int} (h : -B ≤ z ∧ z ≤ B) : 0 ≤ gm_abs z ∧ gm_abs z ≤ B := by
  unfold gm_abs
  split <;> omega
theorem gm_tn_r {n : Int} {xs ys : Int → Int} (hV : VC n xs ys) {k : Int} (h0 : 0 ≤ k) (h1 : k < n) : -1800 ≤ gm_tn n xs ys k ∧ gm_tn n xs ys k ≤ 1800 := by
  have q := gm_nx_r h0 h1
  have p := gm_pv_r h0 h1
  have v1 := hV k h0 h1
  have v2 := hV _ q.1 q.2
  have v3 := hV _ p.1 p.2
  exact gm_turn_r v3.1 v3.2 v1.1 v1.2 v2.1 v2.2
theorem gm_de_r {n : Int} {xs ys : Int → Int} (h0 : 0 ≤ n) : 0 ≤ gm_de n xs ys ∧ gm_de n xs ys ≤ n := by
  unfold gm_de
  have : ∀ m : Nat, 0 ≤ gm_sm (gm_de1 n xs ys) m ∧ gm_sm (gm_de1 n xs ys) m ≤ m := by
    intro m
    induction m with
    | zero => simp [gm_sm]
    | succ m ih =>
      have : 0 ≤ gm_de1 n xs ys m ∧ gm_de1 n xs ys m ≤ 1 := by
        unfold gm_de1
        split <;> split <;> omega
      simp only [gm_sm]
      omega
  have := this n.toNat
  omega
