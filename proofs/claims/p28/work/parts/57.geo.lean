/-! The law's geometry against the class's. -/
theorem gm_onl {ax ay bx by' px py : Int} : gm_on ax ay bx by' px py ↔ (bx - ax) * (py - ay) - (by' - ay) * (px - ax) = 0 ∧ (px - ax) * (px - bx) ≤ 0 ∧ (py - ay) * (py - by') ≤ 0 := by
  rw [gm_on_bx, ← gm_btw, ← gm_btw]
  have e1 : (ax - px) * (bx - px) = (px - ax) * (px - bx) := by grind
  have e2 : (ay - py) * (by' - py) = (py - ay) * (py - by') := by grind
  rw [e1, e2]
  unfold gm_turn
  exact Iff.rfl
theorem gm_col {u v s t : Int} (h : u * t = v * s) (hs : s * (s - u) ≤ 0) (hu : u ≠ 0) : t * (t - v) ≤ 0 := by
  apply Classical.byContradiction
  intro hc
  have h1 : 0 < t * (t - v) := by omega
  have h2 := gm_sq0 hu
  have h3 : 0 < (u * u) * (t * (t - v)) := Int.mul_pos h2 h1
  have h4 : (u * u) * (t * (t - v)) = (v * v) * (s * (s - u)) := by grind
  have h5 : (v * v) * (s * (s - u)) ≤ 0 := by
    have := Int.mul_le_mul_of_nonneg_left hs (gm_sq v)
    omega
  omega
theorem gm_cxl {n x y k : Int} {xs ys : Int → Int} (ho : ¬ gm_sd n xs ys x y k) : gm_cx n ys xs y x k ↔ (((xs k ≤ x ∧ x < xs (gm_nx n k)) ∨ (xs (gm_nx n k) ≤ x ∧ x < xs k)) ∧ (xs k < xs (gm_nx n k) ↔ (xs (gm_nx n k) - xs k) * (y - ys k) - (ys (gm_nx n k) - ys k) * (x - xs k) < 0)) := by
  have hz : xs (gm_nx n k) ≤ x → x < xs k → (xs (gm_nx n k) - xs k) * (y - ys k) - (ys (gm_nx n k) - ys k) * (x - xs k) ≠ 0 := by
    intro a b c
    refine ho (gm_onl.mpr ⟨c, ?_, ?_⟩)
    · exact Int.mul_nonpos_of_nonpos_of_nonneg (by omega) (by omega)
    · have h5 : (x - xs k) * (x - xs k - (xs (gm_nx n k) - xs k)) ≤ 0 := Int.mul_nonpos_of_nonpos_of_nonneg (by omega) (by omega)
      have := gm_col (u := xs (gm_nx n k) - xs k) (v := ys (gm_nx n k) - ys k) (s := x - xs k) (t := y - ys k) (by omega) h5 (by omega)
      rw [show y - ys k - (ys (gm_nx n k) - ys k) = y - ys (gm_nx n k) by omega] at this
      exact this
  unfold gm_cx gm_turn
  split
  · constructor <;> intro q <;> omega
  · constructor <;> intro q <;> omega
theorem gm_ovx {n x y k ins i2 : Int} {xs ys : Int → Int} (ho : ¬ gm_sd n xs ys x y k) (h : i2 = 1 ↔ ¬ (ins = 1 ↔ (((xs k ≤ x ∧ x < xs (gm_nx n k)) ∨ (xs (gm_nx n k) ≤ x ∧ x < xs k)) ∧ (xs k < xs (gm_nx n k) ↔ (xs (gm_nx n k) - xs k) * (y - ys k) - (ys (gm_nx n k) - ys k) * (x - xs k) < 0)))) : i2 = 1 ↔ ¬ (ins = 1 ↔ gm_cx n ys xs y x k) := by
  rw [gm_cxl ho]; exact h
/-- both ways of counting agree off the border -/
def gm_q1 (a b : Int) : Int := if 0 < a ∧ 0 < b then 1 else 0
theorem gm_sg {a b c d : Int} (h : ¬ gm_on a b c d 0 0) : ∃ p q, 0 < p * a + q * b ∧ 0 < p * c + q * d := by
  by_cases e : a * d = b * c
  · have h1 : ¬ (a * c + b * d ≤ 0) := fun q => h ⟨by
      have e1 : (a - 0) * (c - 0) + (b - 0) * (d - 0) = a * c + b * d := by grind
      omega, by
      have e2 : (c - a) * (0 - b) - (d - b) * (0 - a) = a * d - b * c := by grind
      omega⟩
    refine ⟨a + c, b + d, ?_, ?_⟩
    · have := gm_sq a
      have := gm_sq b
      have e3 : (a + c) * a + (b + d) * b = a * a + b * b + (a * c + b * d) := by grind
      omega
    · have := gm_sq c
      have := gm_sq d
      have e3 : (a + c) * c + (b + d) * d = c * c + d * d + (a * c + b * d) := by grind
      omega
  · by_cases g : 0 < a * d - b * c
    · refine ⟨d - b, a - c, ?_, ?_⟩
      · have e3 : (d - b) * a + (a - c) * b = a * d - b * c := by grind
        omega
      · have e3 : (d - b) * c + (a - c) * d = a * d - b * c := by grind
        omega
    · refine ⟨b - d, c - a, ?_, ?_⟩
      · have e3 : (b - d) * a + (c - a) * b = b * c - a * d := by grind
        omega
      · have e3 : (b - d) * c + (c - a) * d = b * c - a * d := by grind
        omega
theorem gm_mn {p a : Int} : (0 < p → a ≤ 0 → p * a ≤ 0) ∧ (p ≤ 0 → 0 < a → p * a ≤ 0) :=
  ⟨fun h1 h2 => Int.mul_nonpos_of_nonneg_of_nonpos (by omega) h2, fun h1 h2 => Int.mul_nonpos_of_nonpos_of_nonneg h1 (by omega)⟩
theorem gm_q1p {p q a b : Int} (h : 0 < p * a + q * b) : gm_q1 a b = (if 0 < p then wn_u b else 0) + (if 0 < q then wn_u a else 0) - (if 0 < p ∧ 0 < q then 1 else 0) := by
  have m1 := gm_mn (p := p) (a := a)
  have m2 := gm_mn (p := q) (a := b)
  unfold gm_q1 wn_u
  by_cases hp : 0 < p <;> by_cases hq : 0 < q <;> by_cases ha : 0 < a <;> by_cases hb : 0 < b <;> simp only [hp, hq, ha, hb, if_true, if_false, and_true, and_false, true_and, false_and] <;> omega
theorem wn_xy {a b c d : Int} (h : ¬ gm_on a b c d 0 0) : wn_s a b c d + wn_s b a d c = gm_q1 c d - gm_q1 a b := by
  obtain ⟨p, q, h1, h2⟩ := gm_sg h
  rw [wn_hp h1 h2, wn_hp (p := q) (q := p) (a := b) (b := a) (c := d) (d := c) (by omega) (by omega), gm_q1p h1, gm_q1p h2]
  split <;> split <;> omega
theorem gm_on_tr {ax ay bx by' px py : Int} : gm_on (ax - px) (ay - py) (bx - px) (by' - py) 0 0 ↔ gm_on ax ay bx by' px py := by
  unfold gm_on
  rw [Int.sub_zero, Int.sub_zero, Int.sub_zero, Int.sub_zero]
  have e1 : (bx - px - (ax - px)) * (0 - (ay - py)) = (bx - ax) * (py - ay) := by grind
  have e2 : (by' - py - (ay - py)) * (0 - (ax - px)) = (by' - ay) * (px - ax) := by grind
  rw [e1, e2]
theorem gm_odv {n x y : Int} {xs ys : Int → Int} (NO : ¬ gm_os n n xs ys x y) (hn : 3 ≤ n) : gm_od n ys xs y x n.toNat ↔ gm_od n xs ys x y n.toNat := by
  rw [gm_odW hn, gm_odW hn]
  have e : wn_W (fun k => xs (k % n)) (fun k => ys (k % n)) n.toNat x y + wn_W (fun k => ys (k % n)) (fun k => xs (k % n)) n.toNat y x = 0 := by
    unfold wn_W
    rw [← gm_sm_add]
    rw [gm_sm_c (g := fun j => gm_q1 (xs ((j + 1) % n) - x) (ys ((j + 1) % n) - y) - gm_q1 (xs (j % n) - x) (ys (j % n) - y)) fun j j0 j1 => ?_]
    · refine wn_t0 (Z := fun j => gm_q1 (xs (j % n) - x) (ys (j % n) - y)) ?_
      have e0 : (n.toNat : Int) % n = 0 % n := by
        rw [show (n.toNat : Int) = n by omega, Int.emod_self, Int.zero_emod]
      show gm_q1 (xs ((n.toNat : Int) % n) - x) _ = _
      rw [e0]
    · refine wn_xy fun q => NO ⟨j, j0, by omega, ?_⟩
      have p := gm_per hn j0 (by omega)
      have q := gm_on_tr.mp q
      dsimp only at q
      rw [p.1, p.2] at q
      exact q
  omega
/-! where two lines meet -/
def gm_lb (ax ay bx by' cx cy dx dy : Int) : Int := (bx - ax) * (dy - cy) - (by' - ay) * (dx - cx)
def gm_l1 (ax ay cx cy dx dy : Int) : Int := (cx - ax) * (dy - cy) - (cy - ay) * (dx - cx)
def gm_l2 (ax ay bx by' cx cy : Int) : Int := (cx - ax) * (by' - ay) - (cy - ay) * (bx - ax)
def gm_le (s t b : Int) : Prop := (0 ≤ s ∧ s ≤ b) ∧ (0 ≤ t ∧ t ≤ b) ∧ ¬ ((s = 0 ∨ s = b) ∧ (t = 0 ∨ t = b))
theorem gm_z2 {b u v : Int} (hb : b ≠ 0) (h : b * u = b * v) : u = v := Int.eq_of_mul_eq_mul_left hb h
/-- a point s/b of the way along v: on the line, and no end of it -/
theorem gm_par {b s vx vy ux uy : Int} (hb : 0 < b) (hv : vx ≠ 0 ∨ vy ≠ 0) (h1 : b * ux = s * vx) (h2 : b * uy = s * vy) : ((ux * (ux - vx) + uy * (uy - vy) ≤ 0) ↔ (0 ≤ s ∧ s ≤ b)) ∧ ((ux = 0 ∧ uy = 0) ↔ s = 0) ∧ ((ux = vx ∧ uy = vy) ↔ s = b) := by
  have nv := gm_nn hv
  have e : (b * b) * (ux * (ux - vx) + uy * (uy - vy)) = (s * (s - b)) * (vx * vx + vy * vy) := by grind
  refine ⟨⟨fun h => ?_, fun h => ?_⟩, ⟨fun h => ?_, fun h => ?_⟩, ⟨fun h => ?_, fun h => ?_⟩⟩
  · have h3 : (s * (s - b)) * (vx * vx + vy * vy) ≤ 0 := by
      rw [← e]
      have := Int.mul_le_mul_of_nonneg_left h (gm_sq b)
      omega
    have h4 : s * (s - b) ≤ 0 := Classical.byContradiction fun c => by
      have := Int.mul_pos (show 0 < s * (s - b) by omega) nv
      omega
    have h5 := (gm_btw (a := 0) (b := b) (p := s)).mp (by have e2 : (0 - s) * (b - s) = s * (s - b) := by grind
                                                          omega)
    omega
  · have h4 : s * (s - b) ≤ 0 := Int.mul_nonpos_of_nonneg_of_nonpos h.1 (by omega)
    apply Classical.byContradiction
    intro c
    have h5 := Int.mul_pos (Int.mul_pos hb hb) (show 0 < ux * (ux - vx) + uy * (uy - vy) by omega)
    have h6 := Int.mul_le_mul_of_nonneg_right h4 (Int.le_of_lt nv)
    omega
  · obtain ⟨rfl, rfl⟩ := h
    rcases hv with hv | hv
    · have : s * vx = 0 := by rw [← h1, Int.mul_zero]
      exact (Int.mul_eq_zero.mp this).resolve_right hv
    · have : s * vy = 0 := by rw [← h2, Int.mul_zero]
      exact (Int.mul_eq_zero.mp this).resolve_right hv
  · subst h
    exact ⟨gm_z2 (b := b) (by omega) (by rw [h1]; omega), gm_z2 (b := b) (by omega) (by rw [h2]; omega)⟩
  · obtain ⟨rfl, rfl⟩ := h
    rcases hv with hv | hv
    · exact (Int.eq_of_mul_eq_mul_right hv h1).symm
    · exact (Int.eq_of_mul_eq_mul_right hv h2).symm
  · subst h
    exact ⟨gm_z2 (by omega) h1, gm_z2 (by omega) h2⟩
theorem gm_wi_s {ax ay bx by' px py b s : Int} (hb : 0 < b) (hv : bx ≠ ax ∨ by' ≠ ay) (h1 : b * (px - ax) = s * (bx - ax)) (h2 : b * (py - ay) = s * (by' - ay)) : gm_wi ax ay bx by' px py ↔ (0 < s ∧ s < b) := by
  obtain ⟨e1, e2, e3⟩ := gm_par (vx := bx - ax) (vy := by' - ay) hb (by omega) h1 h2
  have ho : gm_on ax ay bx by' px py ↔ (0 ≤ s ∧ s ≤ b) := by
    rw [← e1]
    unfold gm_on
    have g1 : (ax - px) * (bx - px) + (ay - py) * (by' - py) = (px - ax) * (px - ax - (bx - ax)) + (py - ay) * (py - ay - (by' - ay)) := by grind
    rw [g1]
    refine ⟨fun q => q.1, fun q => ⟨q, ?_⟩⟩
    refine gm_z2 (b := b) (by omega) ?_
    grind
  unfold gm_wi gm_we
  rw [ho]
  constructor
  · rintro ⟨⟨q1, q2⟩, q3⟩
    have n0 : s ≠ 0 := fun z => q3 (Or.inl (by have := e2.mpr z; omega))
    have n1 : s ≠ b := fun z => q3 (Or.inr (by have := e3.mpr z; omega))
    omega
  · rintro ⟨q1, q2⟩
    refine ⟨by omega, ?_⟩
    rintro (⟨q3, q4⟩ | ⟨q3, q4⟩)
    · have := e2.mp ⟨by omega, by omega⟩; omega
    · have := e3.mp ⟨by omega, by omega⟩; omega
theorem gm_wi_t {ax ay bx by' px py : Int} (h : gm_wi ax ay bx by' px py) : gm_turn ax ay bx by' px py = 0 := (gm_on_bx.mp h.1).1
theorem gm_ltt {ax ay bx by' cx cy dx dy : Int} : gm_turn ax ay bx by' cx cy = - gm_l2 ax ay bx by' cx cy ∧ gm_turn ax ay bx by' dx dy = gm_lb ax ay bx by' cx cy dx dy - gm_l2 ax ay bx by' cx cy ∧ gm_turn cx cy dx dy ax ay = gm_l1 ax ay cx cy dx dy ∧ gm_turn cx cy dx dy bx by' = gm_l1 ax ay cx cy dx dy - gm_lb ax ay bx by' cx cy dx dy := by
  unfold gm_turn gm_l1 gm_l2 gm_lb
  refine ⟨by grind, by grind, by grind, by grind⟩
theorem gm_mtP {ax ay bx by' cx cy dx dy : Int} (hb : bx ≠ ax ∨ by' ≠ ay) (hd : dx ≠ cx ∨ dy ≠ cy) (h : 0 < gm_lb ax ay bx by' cx cy dx dy) : gm_mt ax ay bx by' cx cy dx dy ↔ gm_le (gm_l1 ax ay cx cy dx dy) (gm_l2 ax ay bx by' cx cy) (gm_lb ax ay bx by' cx cy dx dy) := by
  obtain ⟨t1, t2, t3, t4⟩ := gm_ltt (ax := ax) (ay := ay) (bx := bx) (by' := by') (cx := cx) (cy := cy) (dx := dx) (dy := dy)
  have i1 : gm_lb ax ay bx by' cx cy dx dy * (cx - ax) = gm_l1 ax ay cx cy dx dy * (bx - ax) - gm_l2 ax ay bx by' cx cy * (dx - cx) := by unfold gm_lb gm_l1 gm_l2; grind
  have i2 : gm_lb ax ay bx by' cx cy dx dy * (cy - ay) = gm_l1 ax ay cx cy dx dy * (by' - ay) - gm_l2 ax ay bx by' cx cy * (dy - cy) := by unfold gm_lb gm_l1 gm_l2; grind
  have nq : ¬ ((ax = cx ∧ ay = cy ∧ bx = dx ∧ by' = dy) ∨ (ax = dx ∧ ay = dy ∧ bx = cx ∧ by' = cy)) := by
    rintro (⟨rfl, rfl, rfl, rfl⟩ | ⟨rfl, rfl, rfl, rfl⟩)
    · have : gm_lb ax ay bx by' ax ay bx by' = 0 := by unfold gm_lb; grind
      omega
    · have : gm_lb ax ay bx by' bx by' ax ay = 0 := by unfold gm_lb; grind
      omega
  unfold gm_mt
  generalize hB : gm_lb ax ay bx by' cx cy dx dy = B at *
  generalize hS : gm_l1 ax ay cx cy dx dy = S at *
  generalize hT : gm_l2 ax ay bx by' cx cy = T at *
  have w1 : T = 0 → (gm_wi ax ay bx by' cx cy ↔ (0 < S ∧ S < B)) := fun z => gm_wi_s h hb (by rw [i1, z]; omega) (by rw [i2, z]; omega)
  have w2 : T = B → (gm_wi ax ay bx by' dx dy ↔ (0 < S ∧ S < B)) := fun z => gm_wi_s h hb (by rw [z] at i1; grind) (by rw [z] at i2; grind)
  have w3 : S = 0 → (gm_wi cx cy dx dy ax ay ↔ (0 < T ∧ T < B)) := fun z => gm_wi_s h hd (by rw [z] at i1; grind) (by rw [z] at i2; grind)
  have w4 : S = B → (gm_wi cx cy dx dy bx by' ↔ (0 < T ∧ T < B)) := fun z => gm_wi_s h hd (by rw [z] at i1; grind) (by rw [z] at i2; grind)
  have v1 : gm_wi ax ay bx by' cx cy → T = 0 := fun q => by have := gm_wi_t q; omega
  have v2 : gm_wi ax ay bx by' dx dy → T = B := fun q => by have := gm_wi_t q; omega
  have v3 : gm_wi cx cy dx dy ax ay → S = 0 := fun q => by have := gm_wi_t q; omega
  have v4 : gm_wi cx cy dx dy bx by' → S = B := fun q => by have := gm_wi_t q; omega
  unfold gm_le
  constructor
  · rintro (⟨q1, q2⟩ | q | q | q | q | q)
    · unfold gm_ap at q1 q2; omega
    · have := v1 q; have := (w1 this).mp q; omega
    · have := v2 q; have := (w2 this).mp q; omega
    · have := v3 q; have := (w3 this).mp q; omega
    · have := v4 q; have := (w4 this).mp q; omega
    · exact absurd q nq
  · rintro ⟨⟨q1, q2⟩, ⟨q3, q4⟩, q5⟩
    by_cases a1 : T = 0
    · exact Or.inr (Or.inl ((w1 a1).mpr (by omega)))
    · by_cases a2 : T = B
      · exact Or.inr (Or.inr (Or.inl ((w2 a2).mpr (by omega))))
      · by_cases a3 : S = 0
        · exact Or.inr (Or.inr (Or.inr (Or.inl ((w3 a3).mpr (by omega)))))
        · by_cases a4 : S = B
          · exact Or.inr (Or.inr (Or.inr (Or.inr (Or.inl ((w4 a4).mpr (by omega))))))
          · left
            unfold gm_ap
            omega
theorem gm_mtN {ax ay bx by' cx cy dx dy : Int} (hb : bx ≠ ax ∨ by' ≠ ay) (hd : dx ≠ cx ∨ dy ≠ cy) (h : gm_lb ax ay bx by' cx cy dx dy < 0) : gm_mt ax ay bx by' cx cy dx dy ↔ gm_le (- gm_l1 ax ay cx cy dx dy) (- gm_l2 ax ay bx by' cx cy) (- gm_lb ax ay bx by' cx cy dx dy) := by
  have e1 : gm_lb ax ay bx by' dx dy cx cy = - gm_lb ax ay bx by' cx cy dx dy := by unfold gm_lb; grind
  have e2 : gm_l1 ax ay dx dy cx cy = - gm_l1 ax ay cx cy dx dy := by unfold gm_l1; grind
  have e3 : gm_l2 ax ay bx by' dx dy = gm_l2 ax ay bx by' cx cy - gm_lb ax ay bx by' cx cy dx dy := by unfold gm_l2 gm_lb; grind
  have k := gm_mtP (cx := dx) (cy := dy) (dx := cx) (dy := cy) hb (by omega) (by rw [e1]; omega)
  rw [show gm_mt ax ay bx by' cx cy dx dy ↔ gm_mt ax ay bx by' dx dy cx cy from ⟨gm_mt_sw, gm_mt_sw⟩, k, e1, e2, e3]
  unfold gm_le
  omega
theorem gm_mtZ {ax ay bx by' cx cy dx dy : Int} (hb : bx ≠ ax ∨ by' ≠ ay) (hd : dx ≠ cx ∨ dy ≠ cy) (h : gm_lb ax ay bx by' cx cy dx dy = 0) (h2 : gm_l2 ax ay bx by' cx cy ≠ 0) : ¬ gm_mt ax ay bx by' cx cy dx dy := by
  obtain ⟨t1, t2, t3, t4⟩ := gm_ltt (ax := ax) (ay := ay) (bx := bx) (by' := by') (cx := cx) (cy := cy) (dx := dx) (dy := dy)
  have i1 : gm_lb ax ay bx by' cx cy dx dy * (cx - ax) = gm_l1 ax ay cx cy dx dy * (bx - ax) - gm_l2 ax ay bx by' cx cy * (dx - cx) := by unfold gm_lb gm_l1 gm_l2; grind
  have i2 : gm_lb ax ay bx by' cx cy dx dy * (cy - ay) = gm_l1 ax ay cx cy dx dy * (by' - ay) - gm_l2 ax ay bx by' cx cy * (dy - cy) := by unfold gm_lb gm_l1 gm_l2; grind
  have n1 : gm_l1 ax ay cx cy dx dy ≠ 0 := by
    intro z
    rw [h, z] at i1 i2
    rcases hd with hd | hd
    · have : gm_l2 ax ay bx by' cx cy * (dx - cx) = 0 := by omega
      exact (Int.mul_eq_zero.mp this).elim h2 (fun q => hd (by omega))
    · have : gm_l2 ax ay bx by' cx cy * (dy - cy) = 0 := by omega
      exact (Int.mul_eq_zero.mp this).elim h2 (fun q => hd (by omega))
  unfold gm_mt
  rintro (⟨q1, q2⟩ | q | q | q | q | q)
  · unfold gm_ap at q1; omega
  · have := gm_wi_t q; omega
  · have := gm_wi_t q; omega
  · have := gm_wi_t q; omega
  · have := gm_wi_t q; omega
  · rcases q with ⟨rfl, rfl, rfl, rfl⟩ | ⟨rfl, rfl, rfl, rfl⟩
    · exact h2 (by unfold gm_l2; grind)
    · exact h2 (by unfold gm_l2; grind)
def gm_pj (ax ay bx by' px py : Int) : Int := (px - ax) * (bx - ax) + (py - ay) * (by' - ay)
theorem gm_pjs {s t u v : Int} (h : u * t = v * s) : (s * s + t * t) * u = (u * s + v * t) * s ∧ (s * s + t * t) * v = (u * s + v * t) * t := ⟨by grind, by grind⟩
theorem gm_pjx {ax ay bx by' px py : Int} (h : (px - ax) * (by' - ay) = (py - ay) * (bx - ax)) : ((bx - ax) * (bx - ax) + (by' - ay) * (by' - ay)) * (px - ax) = gm_pj ax ay bx by' px py * (bx - ax) ∧ ((bx - ax) * (bx - ax) + (by' - ay) * (by' - ay)) * (py - ay) = gm_pj ax ay bx by' px py * (by' - ay) := gm_pjs h
theorem gm_pjl {L c d e s p x z : Int} (h1 : L * p = e * s) (h2 : L * x = c * s) (h3 : L * z = d * s) : L * ((d - c) * (p - x)) = L * ((e - c) * (z - x)) := by grind
theorem gm_pjn {a b c d : Int} (h : a * b = c * d) : -a * b = -c * d := by rw [Int.neg_mul, Int.neg_mul, h]
theorem gm_pjd {s t u v x z : Int} (h : s * z - t * x = 0) (h2 : u * t = v * s) : (u + x) * t = (v + z) * s := by grind
theorem gm_mtC {ax ay bx by' cx cy dx dy : Int} (hb : bx ≠ ax ∨ by' ≠ ay) (hd : dx ≠ cx ∨ dy ≠ cy) (h : gm_lb ax ay bx by' cx cy dx dy = 0) (h2 : gm_l2 ax ay bx by' cx cy = 0) :
    gm_mt ax ay bx by' cx cy dx dy ↔ gm_hi (gm_lo (gm_pj ax ay bx by' cx cy) (gm_pj ax ay bx by' dx dy)) 0 < gm_lo (gm_hi (gm_pj ax ay bx by' cx cy) (gm_pj ax ay bx by' dx dy)) ((bx - ax) * (bx - ax) + (by' - ay) * (by' - ay)) := by
  have nL := gm_nn (a := bx - ax) (b := by' - ay) (by omega)
  have h2' : (cx - ax) * (by' - ay) = (cy - ay) * (bx - ax) := by unfold gm_l2 at h2; omega
  have h3' : (dx - ax) * (by' - ay) = (dy - ay) * (bx - ax) := by
    unfold gm_lb at h
    have r := gm_pjd h h2'
    rw [show cx - ax + (dx - cx) = dx - ax by omega, show cy - ay + (dy - cy) = dy - ay by omega] at r
    exact r
  obtain ⟨c1, c2⟩ := gm_pjx h2'
  obtain ⟨d1, d2⟩ := gm_pjx h3'
  obtain ⟨t1, t2, t3, t4⟩ := gm_ltt (ax := ax) (ay := ay) (bx := bx) (by' := by') (cx := cx) (cy := cy) (dx := dx) (dy := dy)
  generalize hL : (bx - ax) * (bx - ax) + (by' - ay) * (by' - ay) = L at *
  generalize hc : gm_pj ax ay bx by' cx cy = c at *
  generalize hdd : gm_pj ax ay bx by' dx dy = d at *
  have eC := gm_par (b := L) (s := c) (vx := bx - ax) (vy := by' - ay) nL (by omega) c1 c2
  have eD := gm_par (b := L) (s := d) (vx := bx - ax) (vy := by' - ay) nL (by omega) d1 d2
  have ncd : c ≠ d := by
    intro z
    subst z
    have q1 : cx - ax = dx - ax := gm_z2 (by omega) (c1.trans d1.symm)
    have q2 : cy - ay = dy - ay := gm_z2 (by omega) (c2.trans d2.symm)
    omega
  have w1 := gm_wi_s (px := cx) (py := cy) nL hb c1 c2
  have w2 := gm_wi_s (px := dx) (py := dy) nL hb d1 d2
  -- a and b along c to d: at -c and L - c of d - c
  have sw : ∀ e : Int, ∀ px py : Int, L * (px - ax) = e * (bx - ax) → L * (py - ay) = e * (by' - ay) → (gm_wi cx cy dx dy px py ↔ ((c < e ∧ e < d) ∨ (d < e ∧ e < c))) := by
    intro e px py p1 p2
    have r1 : (d - c) * (px - cx) = (e - c) * (dx - cx) := by
      have r := gm_z2 (b := L) (by omega) (gm_pjl p1 c1 d1)
      rw [show px - ax - (cx - ax) = px - cx by omega, show dx - ax - (cx - ax) = dx - cx by omega] at r
      exact r
    have r2 : (d - c) * (py - cy) = (e - c) * (dy - cy) := by
      have r := gm_z2 (b := L) (by omega) (gm_pjl p2 c2 d2)
      rw [show py - ay - (cy - ay) = py - cy by omega, show dy - ay - (cy - ay) = dy - cy by omega] at r
      exact r
    by_cases g : c < d
    · rw [gm_wi_s (b := d - c) (s := e - c) (by omega) hd r1 r2]; omega
    · have n1 := gm_pjn r1
      have n2 := gm_pjn r2
      rw [show -(d - c) = c - d by omega, show -(e - c) = c - e by omega] at n1 n2
      rw [gm_wi_s (b := c - d) (s := c - e) (by omega) hd n1 n2]; omega
  have w3 := sw 0 ax ay (by omega) (by omega)
  have w4 := sw L bx by' rfl rfl
  have q1 : (ax = cx ∧ ay = cy ∧ bx = dx ∧ by' = dy) ↔ (c = 0 ∧ d = L) := by
    rw [← eC.2.1, ← eD.2.2]; omega
  have q2 : (ax = dx ∧ ay = dy ∧ bx = cx ∧ by' = cy) ↔ (d = 0 ∧ c = L) := by
    rw [← eD.2.1, ← eC.2.2]; omega
  unfold gm_mt
  rw [w1, w2, w3, w4, q1, q2]
  unfold gm_ap gm_hi gm_lo
  constructor
  · rintro (⟨g1, g2⟩ | g | g | g | g | g | g)
    · omega
    all_goals (split <;> split <;> split <;> split <;> omega)
  · intro g
    right
    split at g <;> split at g <;> split at g <;> split at g <;> omega
