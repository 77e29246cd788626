/-! Pick's theorem: the way around a point. -/
/-- the way from U to V crosses the half line to the right: upwards 1, downwards -1 -/
def wn_s (a b c d : Int) : Int := if b ≤ 0 ∧ 0 < d then (if 0 < a * d - b * c then 1 else 0) else if d ≤ 0 ∧ 0 < b then (if a * d - b * c < 0 then -1 else 0) else 0
/-- the same, the point itself counted -/
def wn_t (a b c d : Int) : Int := if b ≤ 0 ∧ 0 < d then (if 0 ≤ a * d - b * c then 1 else 0) else if d ≤ 0 ∧ 0 < b then (if a * d - b * c ≤ 0 then -1 else 0) else 0
def wn_u (b : Int) : Int := if 0 < b then 1 else 0
def wn_d (a b : Int) : Int := if b < 0 ∨ (b = 0 ∧ 0 < a) then 1 else 0
theorem wn_cr {p q a b c d : Int} (h1 : 0 < p * a + q * b) (h2 : 0 < p * c + q * d) (hb : b ≤ 0) (hd : 0 < d) : 0 < p * (a * d - b * c) := by
  have e1 := Int.mul_pos h1 hd
  have e2 := Int.mul_nonneg (Int.le_of_lt h2) (show 0 ≤ -b by omega)
  grind
theorem wn_pos {p z : Int} (h : 0 < p * z) : (0 < p ∧ 0 < z) ∨ (p < 0 ∧ z < 0) := by
  rcases Int.lt_trichotomy p 0 with c | c | c
  · right
    refine ⟨c, Int.not_le.mp fun k => ?_⟩
    have := Int.mul_nonneg (show 0 ≤ -p by omega) k
    grind
  · subst c; rw [Int.zero_mul] at h; omega
  · left
    refine ⟨c, Int.not_le.mp fun k => ?_⟩
    have := Int.mul_nonneg (Int.le_of_lt c) (show 0 ≤ -z by omega)
    grind
/-- in a half plane the way is told by its ends -/
theorem wn_hp {p q a b c d : Int} (h1 : 0 < p * a + q * b) (h2 : 0 < p * c + q * d) : wn_s a b c d = if 0 < p then wn_u d - wn_u b else 0 := by
  unfold wn_s wn_u
  by_cases k1 : b ≤ 0 ∧ 0 < d
  · rw [if_pos k1]
    have := wn_pos (wn_cr h1 h2 k1.1 k1.2)
    rw [if_pos k1.2, if_neg (show ¬ 0 < b by omega)]
    split <;> split <;> omega
  · rw [if_neg k1]
    by_cases k2 : d ≤ 0 ∧ 0 < b
    · rw [if_pos k2]
      have := wn_pos (wn_cr h2 h1 k2.1 k2.2)
      rw [show c * b - d * a = -(a * d - b * c) by grind] at this
      rw [if_neg (show ¬ 0 < d by omega), if_pos k2.2]
      split <;> split <;> omega
    · rw [if_neg k2]
      split
      · split <;> split <;> omega
      · rfl
theorem wn_3 {p q a b c d e f : Int} (h1 : 0 < p * a + q * b) (h2 : 0 < p * c + q * d) (h3 : 0 < p * e + q * f) : wn_s a b c d + wn_s c d e f = wn_s a b e f := by
  rw [wn_hp h1 h2, wn_hp h2 h3, wn_hp h1 h3]
  split <;> omega
theorem wn_4 {p q a b c d e f g h : Int} (h1 : 0 < p * a + q * b) (h2 : 0 < p * c + q * d) (h3 : 0 < p * e + q * f) (h4 : 0 < p * g + q * h) : wn_s a b c d + wn_s c d g h = wn_s a b e f + wn_s e f g h := by
  rw [wn_3 h1 h2 h4, wn_3 h1 h3 h4]
theorem wn_dl {p q a b : Int} (h1 : 0 < p * a + q * b) : (0 < p → wn_d a b = 1 - wn_u b) ∧ (p < 0 → wn_d a b = wn_u (-b)) ∧ (p = 0 → (0 < q ∧ 0 < b ∨ q < 0 ∧ b < 0)) := by
  refine ⟨fun c => ?_, fun c => ?_, fun c => ?_⟩
  · unfold wn_d wn_u
    by_cases z : b = 0
    · subst z
      have := wn_pos (show 0 < p * a by rw [Int.mul_zero, Int.add_zero] at h1; exact h1)
      rw [if_pos (by omega), if_neg (by omega)]
      rfl
    · split <;> split <;> omega
  · unfold wn_d wn_u
    by_cases z : b = 0
    · subst z
      have := wn_pos (show 0 < p * a by rw [Int.mul_zero, Int.add_zero] at h1; exact h1)
      rw [if_neg (by omega), if_neg (by omega)]
    · split <;> split <;> omega
  · subst c
    rw [Int.zero_mul, Int.zero_add] at h1
    exact wn_pos h1
theorem wn_ng {p q a b : Int} (h1 : 0 < p * a + q * b) : 0 < -p * -a + -q * -b := by grind
/-- the half line to the left -/
theorem wn_op {p q a b c d : Int} (h1 : 0 < p * a + q * b) (h2 : 0 < p * c + q * d) : wn_s (-a) (-b) (-c) (-d) - wn_s a b c d = wn_d c d - wn_d a b := by
  rw [wn_hp h1 h2, wn_hp (wn_ng h1) (wn_ng h2)]
  obtain ⟨x1, x2, x3⟩ := wn_dl h1
  obtain ⟨y1, y2, y3⟩ := wn_dl h2
  rcases Int.lt_trichotomy p 0 with c | c | c
  · rw [x2 c, y2 c, if_pos (by omega), if_neg (by omega)]; omega
  · have := x3 c; have := y3 c
    rw [if_neg (by omega), if_neg (by omega)]
    unfold wn_d
    split <;> split <;> omega
  · rw [x1 c, y1 c, if_neg (by omega), if_pos c]; omega
theorem wn_z1 (c d : Int) : wn_s 0 0 c d = 0 := by
  unfold wn_s
  rw [Int.zero_mul, Int.zero_mul]
  split <;> split <;> first | rfl | omega
theorem wn_z2 (a b : Int) : wn_s a b 0 0 = 0 := by
  unfold wn_s
  rw [Int.mul_zero, Int.mul_zero]
  split <;> split <;> first | rfl | omega
theorem wn_par {a b k l : Int} : wn_s (k * a) (k * b) (l * a) (l * b) = 0 := by
  unfold wn_s
  rw [show k * a * (l * b) - k * b * (l * a) = 0 by grind]
  split <;> split <;> first | rfl | omega
theorem wn_sc {a b c d k : Int} (hk : 0 < k) : wn_s (k * a) (k * b) (k * c) (k * d) = wn_s a b c d := by
  have e : k * a * (k * d) - k * b * (k * c) = k * (k * (a * d - b * c)) := by grind
  have s : ∀ z, (0 < k * z ↔ 0 < z) ∧ (k * z < 0 ↔ z < 0) ∧ (k * z ≤ 0 ↔ z ≤ 0) := by
    intro z
    refine ⟨⟨fun h => ?_, fun h => Int.mul_pos hk h⟩, ⟨fun h => ?_, fun h => Int.mul_neg_of_pos_of_neg hk h⟩, ⟨fun h => ?_, fun h => Int.mul_nonpos_of_nonneg_of_nonpos (Int.le_of_lt hk) h⟩⟩
    · have := wn_pos h; omega
    · have := wn_pos (show 0 < k * -z by grind); omega
    · refine Int.not_lt.mp fun q => ?_
      have := Int.mul_pos hk q
      omega
  unfold wn_s
  rw [e]
  simp only [(s _).1, (s _).2.1, (s _).2.2]
theorem gm_sm_t (g : Int → Int) (a : Int) : ∀ m : Nat, gm_sm (fun t => g (a + t + 1) - g (a + t)) m = g (a + m) - g a
  | 0 => by rw [show a + ((0 : Nat) : Int) = a by omega]; exact (Int.sub_self _).symm
  | m + 1 => by
    show gm_sm _ m + (g (a + m + 1) - g (a + m)) = _
    rw [gm_sm_t g a m, show a + ((m + 1 : Nat) : Int) = a + m + 1 by omega]
    omega
theorem gm_sm_add (f g : Int → Int) : ∀ m : Nat, gm_sm (fun t => f t + g t) m = gm_sm f m + gm_sm g m
  | 0 => rfl
  | m + 1 => by
    show gm_sm _ m + (f m + g m) = (gm_sm f m + f m) + (gm_sm g m + g m)
    rw [gm_sm_add f g m]
    omega
theorem gm_sm_sub (f g : Int → Int) : ∀ m : Nat, gm_sm (fun t => f t - g t) m = gm_sm f m - gm_sm g m
  | 0 => rfl
  | m + 1 => by
    show gm_sm _ m + (f m - g m) = (gm_sm f m + f m) - (gm_sm g m + g m)
    rw [gm_sm_sub f g m]
    omega
theorem gm_sm_h (f : Int → Int) : ∀ m : Nat, gm_sm f (m + 1) = f 0 + gm_sm (fun t => f (t + 1)) m
  | 0 => by show (0 : Int) + f 0 = f 0 + 0; omega
  | m + 1 => by
    show gm_sm f (m + 1) + f ((m + 1 : Nat) : Int) = f 0 + (gm_sm (fun t => f (t + 1)) m + f ((m : Int) + 1))
    rw [gm_sm_h f m, show ((m + 1 : Nat) : Int) = (m : Int) + 1 by omega]
    omega
theorem gm_sm_l (f : Int → Int) (m : Nat) : gm_sm f (m + 1) = gm_sm f m + f m := rfl
section PK
variable {X Y : Int → Int} {n : Nat}
def wn_v (X Y : Int → Int) (i j k l : Int) : Int := wn_s (X j - X i) (Y j - Y i) (X l - X k) (Y l - Y k)
def wn_l (X Y : Int → Int) (p q i j : Int) : Prop := 0 < p * (X j - X i) + q * (Y j - Y i)
/-- sides apart have a line between them; sides that follow go not back -/
def WA (X Y : Int → Int) (n : Nat) : Prop := ∀ i j : Int, i + 2 ≤ j → j ≤ i + n - 2 → ∃ p q, wn_l X Y p q i j ∧ wn_l X Y p q i (j + 1) ∧ wn_l X Y p q (i + 1) j ∧ wn_l X Y p q (i + 1) (j + 1)
def WB (X Y : Int → Int) : Prop := ∀ i : Int, ∃ p q, wn_l X Y p q i (i + 1) ∧ wn_l X Y p q (i + 1) (i + 2)
def WP (X Y : Int → Int) (n : Nat) : Prop := ∀ i, X (i + n) = X i ∧ Y (i + n) = Y i
/-- turns to the right hand half line, to the left hand one -/
def wn_h (X Y : Int → Int) (i : Int) : Int := wn_v X Y (i - 1) i i (i + 1)
def wn_g (X Y : Int → Int) (i : Int) : Int := wn_v X Y i (i - 1) (i + 1) i
def wn_e (X Y : Int → Int) (i : Int) : Int := wn_d (X (i + 1) - X i) (Y (i + 1) - Y i)
def wn_A (X Y : Int → Int) (n : Nat) (i : Int) : Int := gm_sm (fun t => wn_v X Y i (i + 1 + t) i (i + 1 + t + 1)) (n - 2)
theorem wn_cl (hA : WA X Y n) {i j : Int} (h1 : i + 2 ≤ j) (h2 : j ≤ i + n - 2) : wn_v X Y i j i (j + 1) + wn_v X Y i (j + 1) (i + 1) (j + 1) = wn_v X Y i j (i + 1) j + wn_v X Y (i + 1) j (i + 1) (j + 1) := by
  obtain ⟨p, q, a, b, c, d⟩ := hA i j h1 h2
  exact wn_4 a b c d
theorem wn_l3 {p q i : Int} (a : wn_l X Y p q i (i + 1)) (b : wn_l X Y p q (i + 1) (i + 2)) : wn_l X Y p q i (i + 2) := by
  unfold wn_l at *
  grind
theorem wn_tr (hB : WB X Y) (i : Int) : wn_v X Y i (i + 1) i (i + 2) + wn_v X Y i (i + 2) (i + 1) (i + 2) = wn_h X Y (i + 1) := by
  obtain ⟨p, q, a, b⟩ := hB i
  have := wn_3 a (wn_l3 a b) b
  unfold wn_h
  rw [show i + 1 - 1 = i by omega, show i + 1 + 1 = i + 2 by omega]
  exact this
theorem wn_rv {p q i j : Int} (a : wn_l X Y p q i j) : wn_l X Y (-p) (-q) j i := by
  unfold wn_l at *
  grind
theorem wn_tg (hB : WB X Y) (i : Int) : wn_v X Y i (i - 1) (i + 1) (i - 1) + wn_v X Y (i + 1) (i - 1) (i + 1) i = wn_g X Y i := by
  obtain ⟨p, q, a, b⟩ := hB (i - 1)
  rw [show i - 1 + 1 = i by omega, show i - 1 + 2 = i + 1 by omega] at *
  have c : wn_l X Y p q (i - 1) (i + 1) := by unfold wn_l at *; grind
  exact wn_3 (wn_rv a) (wn_rv c) (wn_rv b)
theorem wn_hg (hB : WB X Y) (i : Int) : wn_g X Y (i + 1) - wn_h X Y (i + 1) = wn_e X Y (i + 1) - wn_e X Y i := by
  obtain ⟨p, q, a, b⟩ := hB i
  unfold wn_g wn_h wn_e wn_v
  rw [show i + 1 - 1 = i by omega, show i + 1 + 1 = i + 2 by omega]
  have := wn_op a b
  rw [show -(X (i + 1) - X i) = X i - X (i + 1) by omega, show -(Y (i + 1) - Y i) = Y i - Y (i + 1) by omega, show -(X (i + 2) - X (i + 1)) = X (i + 1) - X (i + 2) by omega, show -(Y (i + 2) - Y (i + 1)) = Y (i + 1) - Y (i + 2) by omega] at this
  exact this
theorem wn_vp (hP : WP X Y n) (i j k l : Int) : wn_v X Y i (j + n) k l = wn_v X Y i j k l ∧ wn_v X Y i j k (l + n) = wn_v X Y i j k l ∧ wn_v X Y (i + n) j k l = wn_v X Y i j k l ∧ wn_v X Y i j (k + n) l = wn_v X Y i j k l := by
  unfold wn_v
  simp only [(hP _).1, (hP _).2, and_self]
/-- from one corner to the next -/
theorem wn_st (hP : WP X Y n) (hA : WA X Y n) (hB : WB X Y) (hn : 3 ≤ n) (i : Int) : wn_A X Y n i - wn_A X Y n (i + 1) = wn_h X Y (i + 1) - wn_g X Y i := by
  obtain ⟨m, rfl⟩ : ∃ m, n = m + 3 := ⟨n - 3, by omega⟩
  unfold wn_A
  rw [show m + 3 - 2 = m + 1 by omega, gm_sm_h, gm_sm_l]
  have k : gm_sm (fun t => wn_v X Y i (i + 1 + (t + 1)) i (i + 1 + (t + 1) + 1)) m - gm_sm (fun t => wn_v X Y (i + 1) (i + 1 + 1 + t) (i + 1) (i + 1 + 1 + t + 1)) m = wn_v X Y i (i + 2) (i + 1) (i + 2) - wn_v X Y i (i + 2 + m) (i + 1) (i + 2 + m) := by
    have t := gm_sm_t (fun j => - wn_v X Y i j (i + 1) j) (i + 2) m
    rw [← gm_sm_sub]
    refine (gm_sm_c fun t t0 t1 => ?_).trans (t.trans (by omega))
    have := wn_cl hA (i := i) (j := i + 2 + t) (by omega) (by omega)
    rw [show i + 1 + (t + 1) = i + 2 + t by omega, show i + 1 + 1 + t = i + 2 + t by omega]
    omega
  have a := wn_tr hB i
  have b := wn_tg hB i
  have e1 := (wn_vp hP i (i - 1) (i + 1) (i - 1 + (m + 3 : Nat))).1
  have e2 := (wn_vp hP i (i - 1) (i + 1) (i - 1)).2.1
  have e3 := (wn_vp hP (i + 1) (i - 1) (i + 1) (i + (m + 3 : Nat))).1
  have e4 := (wn_vp hP (i + 1) (i - 1) (i + 1) i).2.1
  rw [show i - 1 + ((m + 3 : Nat) : Int) = i + 2 + m by omega] at e1 e2 e3
  rw [show i + ((m + 3 : Nat) : Int) = i + 2 + m + 1 by omega] at e3 e4
  rw [show i + 1 + 0 = i + 1 by omega, show i + 1 + 1 = i + 2 by omega] at *
  omega
theorem wn_s2 {a b c d k : Int} (hk : 0 < k) : wn_s a b (k * c) (k * d) = wn_s a b c d := by
  have e : a * (k * d) - b * (k * c) = k * (a * d - b * c) := by grind
  have s : ∀ z, (0 < k * z ↔ 0 < z) ∧ (k * z < 0 ↔ z < 0) ∧ (k * z ≤ 0 ↔ z ≤ 0) := by
    intro z
    refine ⟨⟨fun h => ?_, fun h => Int.mul_pos hk h⟩, ⟨fun h => ?_, fun h => Int.mul_neg_of_pos_of_neg hk h⟩, ⟨fun h => ?_, fun h => Int.mul_nonpos_of_nonneg_of_nonpos (Int.le_of_lt hk) h⟩⟩
    · have := wn_pos h; omega
    · have := wn_pos (show 0 < k * -z by grind); omega
    · refine Int.not_lt.mp fun q => ?_
      have := Int.mul_pos hk q
      omega
  unfold wn_s
  rw [e]
  simp only [(s _).1, (s _).2.1, (s _).2.2]
def wn_R (X Y : Int → Int) (n : Nat) : Int := wn_A X Y n 0 + wn_g X Y 0 - wn_e X Y 0
theorem wn_r1 (hP : WP X Y n) (hA : WA X Y n) (hB : WB X Y) (hn : 3 ≤ n) : ∀ k : Nat, wn_A X Y n k + wn_g X Y k - wn_e X Y k = wn_R X Y n
  | 0 => rfl
  | k + 1 => by
    have a := wn_r1 hP hA hB hn k
    have b := wn_st hP hA hB hn k
    have c := wn_hg hB (k : Int)
    rw [show ((k + 1 : Nat) : Int) = (k : Int) + 1 by omega]
    omega
theorem wn_r2 (hP : WP X Y n) (hA : WA X Y n) (hB : WB X Y) (hn : 3 ≤ n) (k : Nat) : wn_A X Y n (k + 1) + wn_h X Y (k + 1) - wn_e X Y k = wn_R X Y n := by
  have a := wn_r1 hP hA hB hn k
  have b := wn_st hP hA hB hn k
  omega
theorem wn_ap (hP : WP X Y n) (i : Int) : wn_A X Y n (i + n) = wn_A X Y n i ∧ wn_h X Y (i + n) = wn_h X Y i ∧ wn_g X Y (i + n) = wn_g X Y i ∧ wn_e X Y (i + n) = wn_e X Y i := by
  refine ⟨gm_sm_c fun t t0 t1 => ?_, ?_, ?_, ?_⟩
  · unfold wn_v
    rw [show i + n + 1 + t = i + 1 + t + n by omega, show i + 1 + t + n + 1 = i + 1 + t + 1 + n by omega]
    simp only [(hP _).1, (hP _).2]
  · unfold wn_h wn_v
    rw [show i + n - 1 = i - 1 + n by omega, show i + n + 1 = i + 1 + n by omega]
    simp only [(hP _).1, (hP _).2]
  · unfold wn_g wn_v
    rw [show i + n - 1 = i - 1 + n by omega, show i + n + 1 = i + 1 + n by omega]
    simp only [(hP _).1, (hP _).2]
  · unfold wn_e
    rw [show i + n + 1 = i + 1 + n by omega]
    simp only [(hP _).1, (hP _).2]
theorem wn_h1 (hA : WA X Y n) (hB : WB X Y) (hn : 3 ≤ n) : ∀ M : Nat, M + 2 ≤ n → gm_sm (fun t => wn_v X Y 0 (t + 1) 0 (t + 1 + 1)) M + gm_sm (fun i => wn_v X Y i (M + 1) (i + 1) (M + 1)) M = gm_sm (fun i => wn_h X Y (i + 1)) M
  | 0, _ => rfl
  | M + 1, hM => by
    have ih := wn_h1 hA hB hn M (by omega)
    have t := gm_sm_t (fun i => wn_v X Y i (M + 1) i (M + 2)) 0 M
    have s : gm_sm (fun i => wn_v X Y i (M + 2) (i + 1) (M + 2)) M - gm_sm (fun i => wn_v X Y i (M + 1) (i + 1) (M + 1)) M = wn_v X Y M (M + 1) M (M + 2) - wn_v X Y 0 (M + 1) 0 (M + 2) := by
      rw [← gm_sm_sub]
      refine (gm_sm_c fun i i0 i1 => ?_).trans (t.trans (by rw [show (0 : Int) + M = M by omega]))
      have := wn_cl hA (i := i) (j := M + 1) (by omega) (by omega)
      rw [show (M : Int) + 1 + 1 = M + 2 by omega] at this
      rw [show (0 : Int) + i = i by omega]
      omega
    have a := wn_tr hB (M : Int)
    rw [show ((M + 1 : Nat) : Int) + 1 = (M : Int) + 2 by omega, gm_sm_l, gm_sm_l, gm_sm_l, show (M : Int) + 1 + 1 = M + 2 by omega]
    omega
theorem wn_d0 {p q a b : Int} (h1 : 0 < p * a + q * b) : wn_d (-a) (-b) = 1 - wn_d a b := by
  have : ¬ (a = 0 ∧ b = 0) := by
    rintro ⟨rfl, rfl⟩
    rw [Int.mul_zero, Int.mul_zero] at h1
    omega
  unfold wn_d
  split <;> split <;> omega
/-- the whole turn -/
theorem wn_hf (hP : WP X Y n) (hA : WA X Y n) (hB : WB X Y) (hn : 3 ≤ n) : gm_sm (fun i => wn_h X Y (i + 1)) n = 2 * wn_R X Y n + 1 := by
  obtain ⟨m, rfl⟩ : ∃ m, n = m + 3 := ⟨n - 3, by omega⟩
  have e := wn_h1 hA hB hn (m + 1) (by omega)
  have a0 : wn_A X Y (m + 3) 0 = gm_sm (fun t => wn_v X Y 0 (t + 1) 0 (t + 1 + 1)) (m + 1) := by
    unfold wn_A
    rw [show m + 3 - 2 = m + 1 by omega]
    refine gm_sm_c fun t t0 t1 => ?_
    rw [show (0 : Int) + 1 + t = t + 1 by omega]
  rw [← a0, gm_sm_h] at e
  rw [show ((m + 1 : Nat) : Int) + 1 = (m : Int) + 2 by omega] at e
  have t := gm_sm_t (fun i => wn_v X Y i (m + 2) i (m + 3)) 1 m
  have s : gm_sm (fun i => wn_v X Y (i + 1) (m + 3) (i + 1 + 1) (m + 3)) m - gm_sm (fun i => wn_v X Y (i + 1) (m + 2) (i + 1 + 1) (m + 2)) m = wn_v X Y (m + 1) (m + 2) (m + 1) (m + 3) - wn_v X Y 1 (m + 2) 1 (m + 3) := by
    rw [← gm_sm_sub]
    refine (gm_sm_c fun i i0 i1 => ?_).trans (t.trans (by rw [show (1 : Int) + m = m + 1 by omega]))
    have := wn_cl hA (i := i + 1) (j := m + 2) (by omega) (by omega)
    rw [show (m : Int) + 2 + 1 = m + 3 by omega] at this
    rw [show (1 : Int) + i = i + 1 by omega]
    omega
  have g0 := wn_tg hB 0
  have e1 := (wn_vp hP 0 (0 - 1) (0 + 1) (0 - 1 + (m + 3 : Nat))).1
  have e2 := (wn_vp hP 0 (0 - 1) (0 + 1) (0 - 1)).2.1
  have e3 := (wn_vp hP (0 + 1) (0 - 1) (0 + 1) (0 + (m + 3 : Nat))).1
  have e4 := (wn_vp hP (0 + 1) (0 - 1) (0 + 1) 0).2.1
  rw [show (0 : Int) - 1 + ((m + 3 : Nat) : Int) = m + 2 by omega] at e1 e2 e3
  rw [show (0 : Int) + ((m + 3 : Nat) : Int) = m + 3 by omega] at e3 e4
  have hl := wn_tr hB ((m : Int) + 1)
  rw [show (m : Int) + 1 + 1 = m + 2 by omega, show (m : Int) + 1 + 2 = m + 3 by omega] at hl
  have w : gm_sm (fun i => wn_v X Y (i + 1) (m + 3) (i + 1 + 1) (m + 3)) (m + 1) - wn_A X Y (m + 3) 0 = wn_d (X (m + 2) - X 0) (Y (m + 2) - Y 0) - wn_d (X 1 - X 0) (Y 1 - Y 0) := by
    rw [a0, ← gm_sm_sub]
    have t := gm_sm_t (fun i => wn_d (X i - X 0) (Y i - Y 0)) 1 (m + 1)
    refine (gm_sm_c fun i i0 i1 => ?_).trans (t.trans (by rw [show (1 : Int) + ((m + 1 : Nat) : Int) = m + 2 by omega]))
    have u : ∃ p q, wn_l X Y p q 0 (i + 1) ∧ wn_l X Y p q 0 (i + 1 + 1) := by
      by_cases z : i = 0
      · subst z
        obtain ⟨p, q, a, b⟩ := hB 0
        exact ⟨p, q, a, wn_l3 a b⟩
      · obtain ⟨p, q, a, b, -⟩ := hA 0 (i + 1) (by omega) (by omega)
        exact ⟨p, q, a, b⟩
    obtain ⟨p, q, a, b⟩ := u
    have := wn_op a b
    have p0 := hP 0
    rw [show (0 : Int) + ((m + 3 : Nat) : Int) = m + 3 by omega] at p0
    unfold wn_v
    rw [p0.1, p0.2, show (1 : Int) + i = i + 1 by omega]
    rw [show X 0 - X (i + 1) = -(X (i + 1) - X 0) by omega, show Y 0 - Y (i + 1) = -(Y (i + 1) - Y 0) by omega, show X 0 - X (i + 1 + 1) = -(X (i + 1 + 1) - X 0) by omega, show Y 0 - Y (i + 1 + 1) = -(Y (i + 1 + 1) - Y 0) by omega]
    exact this
  have dd : wn_d (X (m + 2) - X 0) (Y (m + 2) - Y 0) = 1 - wn_e X Y (m + 2) := by
    obtain ⟨p, q, a, -⟩ := hB (m + 2)
    have := wn_d0 a
    have p0 := hP 0
    rw [show (0 : Int) + ((m + 3 : Nat) : Int) = m + 3 by omega] at p0
    unfold wn_e
    rw [show (m : Int) + 2 + 1 = m + 3 by omega] at this ⊢
    rw [p0.1, p0.2] at this ⊢
    rw [← this, show -(X 0 - X (m + 2)) = X (m + 2) - X 0 by omega, show -(Y 0 - Y (m + 2)) = Y (m + 2) - Y 0 by omega]
  have de : wn_d (X 1 - X 0) (Y 1 - Y 0) = wn_e X Y 0 := rfl
  have r1 := wn_r1 hP hA hB hn 0
  have r2 := wn_r2 hP hA hB hn (m + 2)
  have r3 := wn_ap hP 0
  rw [show (0 : Int) + ((m + 3 : Nat) : Int) = m + 3 by omega] at r3
  rw [show ((m + 2 : Nat) : Int) + 1 = m + 3 by omega, show ((m + 2 : Nat) : Int) = m + 2 by omega] at r2
  rw [gm_sm_l] at w
  rw [gm_sm_l, gm_sm_l, show ((m + 2 : Nat) : Int) + 1 = m + 3 by omega, show ((m + 1 : Nat) : Int) + 1 = m + 2 by omega]
  rw [show ((0 : Nat) : Int) = 0 by omega] at r1
  rw [show (m : Int) + 1 + 1 = m + 2 by omega] at w
  rw [show (0 : Int) + 1 = 1 by omega] at *
  omega
def wn_x (X : Int → Int) (D m k j : Int) : Int := D * (X j - X k) - m * (X (k + 1) - X k)
/-- within a side -/
theorem wn_q (hP : WP X Y n) (hA : WA X Y n) (hB : WB X Y) (hn : 3 ≤ n) (k : Nat) {D m : Int} (m0 : 0 < m) (m1 : m < D) : gm_sm (fun t => wn_s (wn_x X D m k (k + t)) (wn_x Y D m k (k + t)) (wn_x X D m k (k + t + 1)) (wn_x Y D m k (k + t + 1))) n = wn_R X Y n + wn_e X Y k := by
  obtain ⟨l, rfl⟩ : ∃ l, n = l + 3 := ⟨n - 3, by omega⟩
  rw [gm_sm_l, gm_sm_h]
  have z0 : wn_s (wn_x X D m k (k + 0)) (wn_x Y D m k (k + 0)) (wn_x X D m k (k + 0 + 1)) (wn_x Y D m k (k + 0 + 1)) = 0 := by
    have := wn_par (a := X (k + 1) - X k) (b := Y (k + 1) - Y k) (k := -m) (l := D - m)
    refine Eq.trans ?_ this
    unfold wn_x
    rw [show (k : Int) + 0 = k by omega]
    congr 1 <;> grind
  have cl : ∀ t : Int, 0 ≤ t → t ≤ l → wn_v X Y k (k + 1 + t) k (k + 1 + t + 1) + wn_s (X (k + 1 + t + 1) - X k) (Y (k + 1 + t + 1) - Y k) (wn_x X D m k (k + 1 + t + 1)) (wn_x Y D m k (k + 1 + t + 1)) = wn_s (X (k + 1 + t) - X k) (Y (k + 1 + t) - Y k) (wn_x X D m k (k + 1 + t)) (wn_x Y D m k (k + 1 + t)) + wn_s (wn_x X D m k (k + 1 + t)) (wn_x Y D m k (k + 1 + t)) (wn_x X D m k (k + 1 + t + 1)) (wn_x Y D m k (k + 1 + t + 1)) := by
    intro t t0 t1
    by_cases z : t = 0
    · subst z
      obtain ⟨p, q, a, b⟩ := hB k
      rw [show (k : Int) + 1 + 0 = k + 1 by omega, show (k : Int) + 1 + 1 = k + 2 by omega]
      refine wn_4 (p := p) (q := q) a (wn_l3 a b) ?_ ?_
      · have := Int.mul_pos (show 0 < D - m by omega) a
        unfold wn_x
        grind
      · have a1 := Int.mul_pos (show 0 < D - m by omega) a
        have b1 := Int.mul_pos (show 0 < D by omega) b
        unfold wn_x
        grind
    · obtain ⟨p, q, a, b, c, d⟩ := hA k (k + 1 + t) (by omega) (by omega)
      have a1 := Int.mul_pos (show 0 < D - m by omega) a
      have b1 := Int.mul_pos (show 0 < D - m by omega) b
      have c1 := Int.mul_pos m0 c
      have d1 := Int.mul_pos m0 d
      refine wn_4 (p := p) (q := q) a b ?_ ?_
      · unfold wn_x; grind
      · unfold wn_x; grind
  have s : gm_sm (fun t => wn_s (wn_x X D m k (k + (t + 1))) (wn_x Y D m k (k + (t + 1))) (wn_x X D m k (k + (t + 1) + 1)) (wn_x Y D m k (k + (t + 1) + 1))) (l + 1) - wn_A X Y (l + 3) k = wn_s (X (k + 1 + (l + 1 : Nat)) - X k) (Y (k + 1 + (l + 1 : Nat)) - Y k) (wn_x X D m k (k + 1 + (l + 1 : Nat))) (wn_x Y D m k (k + 1 + (l + 1 : Nat))) - wn_s (X (k + 1) - X k) (Y (k + 1) - Y k) (wn_x X D m k (k + 1)) (wn_x Y D m k (k + 1)) := by
    unfold wn_A
    rw [show l + 3 - 2 = l + 1 by omega, ← gm_sm_sub]
    have t := gm_sm_t (fun j => wn_s (X j - X k) (Y j - Y k) (wn_x X D m k j) (wn_x Y D m k j)) (k + 1) (l + 1)
    refine (gm_sm_c fun i i0 i1 => ?_).trans t
    have := cl i i0 (by omega)
    rw [show (k : Int) + (i + 1) = k + 1 + i by omega]
    omega
  have z1 : wn_s (X (k + 1) - X k) (Y (k + 1) - Y k) (wn_x X D m k (k + 1)) (wn_x Y D m k (k + 1)) = 0 := by
    have := wn_par (a := X (k + 1) - X k) (b := Y (k + 1) - Y k) (k := 1) (l := D - m)
    refine Eq.trans ?_ this
    unfold wn_x
    congr 1 <;> grind
  have r := wn_r1 hP hA hB hn k
  have f : wn_s (X (k + 1 + (l + 1 : Nat)) - X k) (Y (k + 1 + (l + 1 : Nat)) - Y k) (wn_x X D m k (k + 1 + (l + 1 : Nat))) (wn_x Y D m k (k + 1 + (l + 1 : Nat))) + wn_s (wn_x X D m k (k + (l + 2 : Nat))) (wn_x Y D m k (k + (l + 2 : Nat))) (wn_x X D m k (k + (l + 2 : Nat) + 1)) (wn_x Y D m k (k + (l + 2 : Nat) + 1)) = wn_g X Y k := by
    obtain ⟨p, q, a, b⟩ := hB (k - 1)
    rw [show (k : Int) - 1 + 1 = k by omega, show (k : Int) - 1 + 2 = k + 1 by omega] at *
    have h1 := hP (k - 1)
    have h2 := hP k
    rw [show (k : Int) - 1 + ((l + 3 : Nat) : Int) = k + (l + 2 : Nat) by omega] at h1
    rw [show (k : Int) + ((l + 3 : Nat) : Int) = k + (l + 2 : Nat) + 1 by omega] at h2
    rw [show (k : Int) + 1 + ((l + 1 : Nat) : Int) = k + (l + 2 : Nat) by omega]
    unfold wn_x
    rw [h1.1, h1.2, h2.1, h2.2]
    have a1 := Int.mul_pos (show 0 < D by omega) a
    have b1 := Int.mul_pos m0 b
    have := wn_3 (p := -p) (q := -q) (a := X (k - 1) - X k) (b := Y (k - 1) - Y k) (c := D * (X (k - 1) - X k) - m * (X (k + 1) - X k)) (d := D * (Y (k - 1) - Y k) - m * (Y (k + 1) - Y k)) (e := D * (X k - X k) - m * (X (k + 1) - X k)) (f := D * (Y k - Y k) - m * (Y (k + 1) - Y k)) (wn_rv a) (by unfold wn_l at *; grind) (by unfold wn_l at *; grind)
    rw [this]
    unfold wn_g wn_v
    rw [← wn_s2 (c := X k - X (k + 1)) (d := Y k - Y (k + 1)) m0]
    congr 1 <;> grind
  omega
/-! points on the border, points beside it -/
theorem wn_ts {p q a b c d : Int} (h1 : 0 < p * a + q * b) (h2 : 0 < p * c + q * d) : wn_t a b c d = wn_s a b c d := by
  unfold wn_t wn_s
  by_cases k1 : b ≤ 0 ∧ 0 < d
  · rw [if_pos k1, if_pos k1]
    have := wn_pos (wn_cr h1 h2 k1.1 k1.2)
    split <;> split <;> omega
  · rw [if_neg k1, if_neg k1]
    by_cases k2 : d ≤ 0 ∧ 0 < b
    · rw [if_pos k2, if_pos k2]
      have := wn_pos (wn_cr h2 h1 k2.1 k2.2)
      rw [show c * b - d * a = -(a * d - b * c) by grind] at this
      split <;> split <;> omega
    · rw [if_neg k2, if_neg k2]
theorem wn_tc {a b c d k : Int} (hk : 0 < k) : wn_t (k * a) (k * b) (k * c) (k * d) = wn_t a b c d := by
  have e : k * a * (k * d) - k * b * (k * c) = k * (k * (a * d - b * c)) := by grind
  have s : ∀ z, (0 < k * z ↔ 0 < z) ∧ (k * z < 0 ↔ z < 0) ∧ (k * z ≤ 0 ↔ z ≤ 0) ∧ (0 ≤ k * z ↔ 0 ≤ z) := by
    intro z
    have s1 : 0 < z → 0 < k * z := Int.mul_pos hk
    have s2 : 0 < -z → 0 < k * -z := Int.mul_pos hk
    have s3 : z = 0 → k * z = 0 := fun h => by rw [h, Int.mul_zero]
    rw [Int.mul_neg] at s2
    omega
  unfold wn_t
  rw [e]
  simp only [(s _).1, (s _).2.2.1, (s _).2.2.2]
theorem wn_tp {a b k l : Int} (hk : 0 < k) (hl : 0 < l) : wn_t (-k * a) (-k * b) (l * a) (l * b) = wn_u b - wn_u (-b) := by
  have s : ∀ z m : Int, 0 < m → (0 < m * z ↔ 0 < z) ∧ (m * z ≤ 0 ↔ z ≤ 0) ∧ (0 < -m * z ↔ z < 0) ∧ (-m * z ≤ 0 ↔ 0 ≤ z) := by
    intro z m hm
    have s1 : 0 < z → 0 < m * z := Int.mul_pos hm
    have s2 : 0 < -z → 0 < m * -z := Int.mul_pos hm
    have s3 : z = 0 → m * z = 0 := fun h => by rw [h, Int.mul_zero]
    rw [Int.mul_neg] at s2
    rw [Int.neg_mul]
    omega
  unfold wn_t wn_u
  rw [show -k * a * (l * b) - -k * b * (l * a) = 0 by grind]
  simp only [(s b l hl).1, (s b l hl).2.1, (s b k hk).2.2.1, (s b k hk).2.2.2]
  rcases Int.lt_trichotomy b 0 with c | c | c
  · rw [if_neg (by omega), if_pos (by omega), if_pos (by omega), if_neg (by omega), if_pos (by omega)]; rfl
  · rw [if_neg (by omega), if_neg (by omega), if_neg (by omega), if_neg (by omega)]; rfl
  · rw [if_pos (by omega), if_pos (by omega), if_pos (by omega), if_neg (by omega)]; rfl
theorem wn_tz1 (c d : Int) : wn_t 0 0 c d = wn_u d := by
  unfold wn_t wn_u
  rw [Int.zero_mul, Int.zero_mul]
  split
  · rw [if_pos (by omega), if_pos (by omega)]
  · rw [if_neg (by omega), if_neg (by omega)]
theorem wn_tz2 (a b : Int) : wn_t a b 0 0 = - wn_u b := by
  unfold wn_t wn_u
  rw [Int.mul_zero, Int.mul_zero, if_neg (by omega)]
  split
  · rw [if_pos (by omega), if_pos (by omega)]
  · rw [if_neg (by omega)]; rfl
theorem gm_sm_rot {F : Int → Int} {n : Nat} (hF : ∀ i, F (i + n) = F i) : ∀ k : Nat, gm_sm (fun t => F (k + t)) n = gm_sm F n
  | 0 => gm_sm_c fun t _ _ => by rw [show ((0 : Nat) : Int) + t = t by omega]
  | k + 1 => by
    rw [← gm_sm_rot hF k]
    cases n with
    | zero => rfl
    | succ m =>
      rw [gm_sm_h (fun t => F (k + t)) m, gm_sm_l]
      have := hF k
      rw [show ((k + 1 : Nat) : Int) + (m : Int) = k + ((m + 1 : Nat) : Int) by omega, this, show (k : Int) + 0 = k by omega, gm_sm_c (f := fun t => F (((k + 1 : Nat) : Int) + t)) (g := fun t => F (k + (t + 1))) fun t _ _ => by show F _ = F _; congr 1; omega]
      omega
/-- how often the border goes around a point; the sides through the point counted too -/
def wn_W (X Y : Int → Int) (n : Nat) (x y : Int) : Int := gm_sm (fun j => wn_s (X j - x) (Y j - y) (X (j + 1) - x) (Y (j + 1) - y)) n
def wn_V (X Y : Int → Int) (n : Nat) (x y : Int) : Int := gm_sm (fun j => wn_t (X j - x) (Y j - y) (X (j + 1) - x) (Y (j + 1) - y)) n
theorem wn_per (hP : WP X Y n) (f : Int → Int → Int → Int → Int) (x y : Int) (i : Int) : f (X (i + n) - x) (Y (i + n) - y) (X (i + n + 1) - x) (Y (i + n + 1) - y) = f (X i - x) (Y i - y) (X (i + 1) - x) (Y (i + 1) - y) := by
  rw [show i + (n : Int) + 1 = i + 1 + n by omega, (hP _).1, (hP _).2, (hP _).1, (hP _).2]
theorem wn_Wc (hP : WP X Y n) (hn : 3 ≤ n) (k : Nat) : wn_W X Y n (X k) (Y k) = wn_A X Y n k := by
  obtain ⟨l, rfl⟩ : ∃ l, n = l + 3 := ⟨n - 3, by omega⟩
  unfold wn_W
  rw [← gm_sm_rot (F := fun j => wn_s (X j - X k) (Y j - Y k) (X (j + 1) - X k) (Y (j + 1) - Y k)) (wn_per hP wn_s (X k) (Y k)) k, gm_sm_l, gm_sm_h]
  have h2 := hP k
  rw [show (k : Int) + ((l + 3 : Nat) : Int) = k + (l + 2 : Nat) + 1 by omega] at h2
  rw [show (k : Int) + 0 = k by omega, h2.1, h2.2, Int.sub_self, Int.sub_self, wn_z1, wn_z2]
  unfold wn_A wn_v
  rw [show l + 3 - 2 = l + 1 by omega, Int.zero_add, Int.add_zero]
  refine gm_sm_c fun t _ _ => ?_
  rw [show (k : Int) + (t + 1) = k + 1 + t by omega]
theorem wn_Vc (hP : WP X Y n) (hA : WA X Y n) (hB : WB X Y) (hn : 3 ≤ n) (k : Nat) : wn_V X Y n (X k) (Y k) = wn_A X Y n k + wn_u (Y (k + 1) - Y k) - wn_u (Y (k - 1) - Y k) := by
  obtain ⟨l, rfl⟩ : ∃ l, n = l + 3 := ⟨n - 3, by omega⟩
  unfold wn_V
  rw [← gm_sm_rot (F := fun j => wn_t (X j - X k) (Y j - Y k) (X (j + 1) - X k) (Y (j + 1) - Y k)) (wn_per hP wn_t (X k) (Y k)) k, gm_sm_l, gm_sm_h]
  have h2 := hP k
  have h1 := hP (k - 1)
  rw [show (k : Int) - 1 + ((l + 3 : Nat) : Int) = k + (l + 2 : Nat) by omega] at h1
  rw [show (k : Int) + ((l + 3 : Nat) : Int) = k + (l + 2 : Nat) + 1 by omega] at h2
  rw [show (k : Int) + 0 = k by omega, h2.1, h2.2, h1.1, h1.2, Int.sub_self, Int.sub_self, wn_tz1, wn_tz2]
  unfold wn_A wn_v
  rw [show l + 3 - 2 = l + 1 by omega]
  have e : gm_sm (fun t => wn_t (X (k + (t + 1)) - X k) (Y (k + (t + 1)) - Y k) (X (k + (t + 1) + 1) - X k) (Y (k + (t + 1) + 1) - Y k)) (l + 1) = gm_sm (fun t => wn_s (X (k + 1 + t) - X k) (Y (k + 1 + t) - Y k) (X (k + 1 + t + 1) - X k) (Y (k + 1 + t + 1) - Y k)) (l + 1) := by
    refine gm_sm_c fun t t0 t1 => ?_
    rw [show (k : Int) + (t + 1) = k + 1 + t by omega]
    by_cases z : t = 0
    · subst z
      obtain ⟨p, q, a, b⟩ := hB k
      rw [show (k : Int) + 1 + 0 = k + 1 by omega, show (k : Int) + 1 + 1 = k + 2 by omega]
      exact wn_ts a (wn_l3 a b)
    · obtain ⟨p, q, a, b, -⟩ := hA k (k + 1 + t) (by omega) (by omega)
      exact wn_ts a b
  rw [e]
  omega
theorem wn_qt (hP : WP X Y n) (hA : WA X Y n) (hB : WB X Y) (hn : 3 ≤ n) (k : Nat) {D m : Int} (m0 : 0 < m) (m1 : m < D) : gm_sm (fun t => wn_t (wn_x X D m k (k + t)) (wn_x Y D m k (k + t)) (wn_x X D m k (k + t + 1)) (wn_x Y D m k (k + t + 1))) n = wn_R X Y n + wn_e X Y k + wn_u (Y (k + 1) - Y k) - wn_u (-(Y (k + 1) - Y k)) := by
  rw [← wn_q hP hA hB hn k m0 m1]
  obtain ⟨l, rfl⟩ : ∃ l, n = l + 3 := ⟨n - 3, by omega⟩
  rw [gm_sm_l _ (l + 2), gm_sm_l _ (l + 2), gm_sm_h _ (l + 1), gm_sm_h _ (l + 1)]
  have z0 : wn_s (wn_x X D m k (k + 0)) (wn_x Y D m k (k + 0)) (wn_x X D m k (k + 0 + 1)) (wn_x Y D m k (k + 0 + 1)) = 0 := by
    have := wn_par (a := X (k + 1) - X k) (b := Y (k + 1) - Y k) (k := -m) (l := D - m)
    refine Eq.trans ?_ this
    unfold wn_x
    rw [show (k : Int) + 0 = k by omega]
    congr 1 <;> grind
  have z1 : wn_t (wn_x X D m k (k + 0)) (wn_x Y D m k (k + 0)) (wn_x X D m k (k + 0 + 1)) (wn_x Y D m k (k + 0 + 1)) = wn_u (Y (k + 1) - Y k) - wn_u (-(Y (k + 1) - Y k)) := by
    have := wn_tp (a := X (k + 1) - X k) (b := Y (k + 1) - Y k) (k := m) (l := D - m) m0 (by omega)
    refine Eq.trans ?_ this
    unfold wn_x
    rw [show (k : Int) + 0 = k by omega]
    congr 1 <;> grind
  have e : gm_sm (fun t => wn_t (wn_x X D m k (k + (t + 1))) (wn_x Y D m k (k + (t + 1))) (wn_x X D m k (k + (t + 1) + 1)) (wn_x Y D m k (k + (t + 1) + 1))) (l + 1) = gm_sm (fun t => wn_s (wn_x X D m k (k + (t + 1))) (wn_x Y D m k (k + (t + 1))) (wn_x X D m k (k + (t + 1) + 1)) (wn_x Y D m k (k + (t + 1) + 1))) (l + 1) := by
    refine gm_sm_c fun t t0 t1 => ?_
    rw [show (k : Int) + (t + 1) = k + 1 + t by omega]
    by_cases z : t = 0
    · subst z
      obtain ⟨p, q, a, b⟩ := hB k
      have a1 := Int.mul_pos (show 0 < D - m by omega) a
      have b1 := Int.mul_pos (show 0 < D by omega) b
      rw [show (k : Int) + 1 + 0 = k + 1 by omega, show (k : Int) + 1 + 1 = k + 2 by omega]
      refine wn_ts (p := p) (q := q) ?_ ?_ <;> (unfold wn_x; grind)
    · obtain ⟨p, q, a, b, c, d⟩ := hA k (k + 1 + t) (by omega) (by omega)
      have a1 := Int.mul_pos (show 0 < D - m by omega) a
      have b1 := Int.mul_pos (show 0 < D - m by omega) b
      have c1 := Int.mul_pos m0 c
      have d1 := Int.mul_pos m0 d
      refine wn_ts (p := p) (q := q) ?_ ?_ <;> (unfold wn_x; grind)
  have f : wn_t (wn_x X D m k (k + (l + 2 : Nat))) (wn_x Y D m k (k + (l + 2 : Nat))) (wn_x X D m k (k + (l + 2 : Nat) + 1)) (wn_x Y D m k (k + (l + 2 : Nat) + 1)) = wn_s (wn_x X D m k (k + (l + 2 : Nat))) (wn_x Y D m k (k + (l + 2 : Nat))) (wn_x X D m k (k + (l + 2 : Nat) + 1)) (wn_x Y D m k (k + (l + 2 : Nat) + 1)) := by
    obtain ⟨p, q, a, b⟩ := hB (k - 1)
    rw [show (k : Int) - 1 + 1 = k by omega, show (k : Int) - 1 + 2 = k + 1 by omega] at *
    have h1 := hP (k - 1)
    have h2 := hP k
    rw [show (k : Int) - 1 + ((l + 3 : Nat) : Int) = k + (l + 2 : Nat) by omega] at h1
    rw [show (k : Int) + ((l + 3 : Nat) : Int) = k + (l + 2 : Nat) + 1 by omega] at h2
    unfold wn_x
    rw [h1.1, h1.2, h2.1, h2.2]
    have a1 := Int.mul_pos (show 0 < D by omega) a
    have b1 := Int.mul_pos m0 b
    exact wn_ts (p := -p) (q := -q) (by unfold wn_l at *; grind) (by unfold wn_l at *; grind)
  omega
/-- a point within a side -/
theorem wn_on (hP : WP X Y n) (hA : WA X Y n) (hB : WB X Y) (hn : 3 ≤ n) (k : Nat) {D m x y : Int} (m0 : 0 < m) (m1 : m < D) (hx : D * (x - X k) = m * (X (k + 1) - X k)) (hy : D * (y - Y k) = m * (Y (k + 1) - Y k)) : wn_W X Y n x y = wn_R X Y n + wn_e X Y k ∧ wn_V X Y n x y = wn_R X Y n + wn_e X Y k + wn_u (Y (k + 1) - Y k) - wn_u (-(Y (k + 1) - Y k)) := by
  have ex : ∀ j, wn_x X D m k j = D * (X j - x) := fun j => by unfold wn_x; grind
  have ey : ∀ j, wn_x Y D m k j = D * (Y j - y) := fun j => by unfold wn_x; grind
  rw [← wn_qt hP hA hB hn k m0 m1, ← wn_q hP hA hB hn k m0 m1]
  unfold wn_W wn_V
  rw [← gm_sm_rot (F := fun j => wn_s (X j - x) (Y j - y) (X (j + 1) - x) (Y (j + 1) - y)) (wn_per hP wn_s x y) k, ← gm_sm_rot (F := fun j => wn_t (X j - x) (Y j - y) (X (j + 1) - x) (Y (j + 1) - y)) (wn_per hP wn_t x y) k]
  constructor
  · refine gm_sm_c fun t _ _ => ?_
    rw [ex, ey, ex, ey, wn_sc (by omega)]
  · refine gm_sm_c fun t _ _ => ?_
    rw [ex, ey, ex, ey, wn_tc (by omega)]
theorem wn_cc (hP : WP X Y n) (hA : WA X Y n) (hB : WB X Y) (hn : 3 ≤ n) (k : Nat) : (wn_A X Y n (k + 1) = wn_R X Y n ∨ wn_A X Y n (k + 1) = wn_R X Y n + 1) ∧ (wn_V X Y n (X (k + 1)) (Y (k + 1)) = wn_R X Y n ∨ wn_V X Y n (X (k + 1)) (Y (k + 1)) = wn_R X Y n + 1) := by
  have r2 := wn_r2 hP hA hB hn k
  have v := wn_Vc hP hA hB hn (k + 1)
  rw [show ((k + 1 : Nat) : Int) = k + 1 by omega, show (k : Int) + 1 + 1 = k + 2 by omega, show (k : Int) + 1 - 1 = k by omega] at v
  obtain ⟨p, q, a, b⟩ := hB k
  have h : wn_h X Y (k + 1) = if 0 < p then wn_u (Y (k + 2) - Y (k + 1)) - wn_u (Y (k + 1) - Y k) else 0 := by
    unfold wn_h wn_v
    rw [show (k : Int) + 1 - 1 = k by omega, show (k : Int) + 1 + 1 = k + 2 by omega]
    exact wn_hp a b
  obtain ⟨x1, x2, x3⟩ := wn_dl a
  obtain ⟨y1, y2, y3⟩ := wn_dl b
  have ee : wn_e X Y k = wn_d (X (k + 1) - X k) (Y (k + 1) - Y k) := rfl
  have u1 : wn_u (Y (k + 2) - Y (k + 1)) = 0 ∨ wn_u (Y (k + 2) - Y (k + 1)) = 1 := by unfold wn_u; split <;> omega
  have u2 : wn_u (Y (k + 1) - Y k) = 0 ∨ wn_u (Y (k + 1) - Y k) = 1 := by unfold wn_u; split <;> omega
  have u3 : wn_u (Y k - Y (k + 1)) = 0 ∨ wn_u (Y k - Y (k + 1)) = 1 := by unfold wn_u; split <;> omega
  rw [show -(Y (k + 1) - Y k) = Y k - Y (k + 1) by omega] at x2
  rcases Int.lt_trichotomy p 0 with c | c | c
  · have := x2 c
    rw [if_neg (by omega)] at h
    omega
  · have x3 := x3 c
    have y3 := y3 c
    rw [if_neg (by omega)] at h
    have e2 : wn_d (X (k + 1) - X k) (Y (k + 1) - Y k) = wn_u (Y k - Y (k + 1)) := by unfold wn_d wn_u; split <;> split <;> omega
    have e3 : wn_u (Y k - Y (k + 1)) = 1 - wn_u (Y (k + 2) - Y (k + 1)) := by unfold wn_u; split <;> split <;> omega
    omega
  · have := x1 c
    rw [if_pos c] at h
    omega
/-! a point off the border -/
theorem gm_arg {K : Int → Prop} {N D : Int → Int} (hD : ∀ j, K j → 0 < D j) : ∀ m : Nat, (∀ j : Int, 0 ≤ j → j < m → ¬ K j) ∨ ∃ k : Nat, k < m ∧ K k ∧ ∀ j : Int, 0 ≤ j → j < m → K j → N k * D j ≤ N j * D k
  | 0 => Or.inl fun j j0 j1 => by omega
  | m + 1 => by
    by_cases km : K m
    · rcases gm_arg (N := N) hD m with h | ⟨k, k1, k2, k3⟩
      · refine Or.inr ⟨m, by omega, km, fun j j0 j1 kj => ?_⟩
        by_cases e : j = m
        · rw [e]; exact Int.le_refl _
        · exact absurd kj (h j j0 (by omega))
      · by_cases c : N k * D m ≤ N m * D k
        · refine Or.inr ⟨k, by omega, k2, fun j j0 j1 kj => ?_⟩
          by_cases e : j = m
          · rw [e]; exact c
          · exact k3 j j0 (by omega) kj
        · refine Or.inr ⟨m, by omega, km, fun j j0 j1 kj => ?_⟩
          by_cases e : j = m
          · rw [e]; exact Int.le_refl _
          · have h1 := k3 j j0 (by omega) kj
            have p1 := hD _ k2
            have p2 := hD _ kj
            have p3 := hD _ km
            refine Int.not_lt.mp fun q => ?_
            have a1 := Int.mul_pos p1 (show 0 < N m * D j - N j * D m by omega)
            have a2 := Int.mul_nonneg (Int.le_of_lt p3) (show 0 ≤ N j * D k - N k * D j by omega)
            have a3 := Int.mul_pos p2 (show 0 < N k * D m - N m * D k by omega)
            grind
    · rcases gm_arg (N := N) hD m with h | ⟨k, k1, k2, k3⟩
      · refine Or.inl fun j j0 j1 => ?_
        by_cases e : j = m
        · rw [e]; exact km
        · exact h j j0 (by omega)
      · refine Or.inr ⟨k, by omega, k2, fun j j0 j1 kj => ?_⟩
        by_cases e : j = m
        · rw [e] at kj; exact absurd kj km
        · exact k3 j j0 (by omega) kj
theorem wn_mv {a b c d D N : Int} (hD : 0 < D) (hN : 0 < N) (m1 : b ≤ 0 → 0 < d → 0 < a * d - b * c → N * (d - b) ≤ (a * d - b * c) * D) (m2 : d ≤ 0 → 0 < b → a * d - b * c < 0 → N * (b - d) ≤ -(a * d - b * c) * D) : wn_s a b c d = wn_t (D * a - N) (D * b) (D * c - N) (D * d) := by
  have e : (D * a - N) * (D * d) - D * b * (D * c - N) = D * (D * (a * d - b * c) - N * (d - b)) := by grind
  have s : ∀ z, (0 < D * z ↔ 0 < z) ∧ (D * z ≤ 0 ↔ z ≤ 0) ∧ (0 ≤ D * z ↔ 0 ≤ z) := by
    intro z
    have s1 : 0 < z → 0 < D * z := Int.mul_pos hD
    have s2 : 0 < -z → 0 < D * -z := Int.mul_pos hD
    have s3 : z = 0 → D * z = 0 := fun h => by rw [h, Int.mul_zero]
    rw [Int.mul_neg] at s2
    omega
  unfold wn_s wn_t
  rw [e]
  simp only [(s _).1, (s _).2.1, (s _).2.2]
  by_cases k1 : b ≤ 0 ∧ 0 < d
  · rw [if_pos k1, if_pos k1]
    by_cases k : 0 < a * d - b * c
    · have := m1 k1.1 k1.2 k
      rw [Int.mul_comm _ D] at this
      rw [if_pos k, if_pos (by omega)]
    · have p1 := Int.mul_pos hN (show 0 < d - b by omega)
      have p2 := Int.mul_nonneg (Int.le_of_lt hD) (show 0 ≤ -(a * d - b * c) by omega)
      rw [Int.mul_neg] at p2
      rw [if_neg k, if_neg (by omega)]
  · rw [if_neg k1, if_neg k1]
    by_cases k2 : d ≤ 0 ∧ 0 < b
    · rw [if_pos k2, if_pos k2]
      by_cases k : a * d - b * c < 0
      · have := m2 k2.1 k2.2 k
        rw [Int.mul_comm _ D, Int.mul_neg] at this
        rw [if_pos k, if_pos (by grind)]
      · have p1 := Int.mul_pos hN (show 0 < b - d by omega)
        have p2 := Int.mul_nonneg (Int.le_of_lt hD) (show 0 ≤ a * d - b * c by omega)
        rw [if_neg k, if_neg (by grind)]
    · rw [if_neg k2, if_neg k2]
theorem wn_u0 {b : Int} : (0 < b → wn_u b = 1) ∧ (b ≤ 0 → wn_u b = 0) := ⟨fun h => if_pos h, fun h => if_neg (by omega)⟩
theorem wn_c2 (hP : WP X Y n) (hA : WA X Y n) (hB : WB X Y) (hn : 3 ≤ n) (k : Nat) : (wn_A X Y n k = wn_R X Y n ∨ wn_A X Y n k = wn_R X Y n + 1) ∧ (wn_V X Y n (X k) (Y k) = wn_R X Y n ∨ wn_V X Y n (X k) (Y k) = wn_R X Y n + 1) := by
  have h := wn_cc hP hA hB hn (k + n - 1)
  have e := wn_ap hP k
  have f := hP k
  rw [show ((k + n - 1 : Nat) : Int) + 1 = k + n by omega, f.1, f.2, e.1] at h
  exact h
/-- off the border: at once around, or not -/
theorem wn_j (hP : WP X Y n) (hA : WA X Y n) (hB : WB X Y) (hn : 3 ≤ n) (x y : Int) : wn_W X Y n x y = 0 ∨ wn_W X Y n x y = wn_R X Y n ∨ wn_W X Y n x y = wn_R X Y n + 1 := by
  let K : Int → Prop := fun j => wn_s (X j - x) (Y j - y) (X (j + 1) - x) (Y (j + 1) - y) ≠ 0
  let C : Int → Int := fun j => (X j - x) * (Y (j + 1) - y) - (Y j - y) * (X (j + 1) - x)
  let N : Int → Int := fun j => if Y j < Y (j + 1) then C j else -C j
  let D : Int → Int := fun j => if Y j < Y (j + 1) then Y (j + 1) - Y j else Y j - Y (j + 1)
  have hK : ∀ j, K j → (Y j - y ≤ 0 ∧ 0 < Y (j + 1) - y ∧ 0 < C j) ∨ (Y (j + 1) - y ≤ 0 ∧ 0 < Y j - y ∧ C j < 0) := by
    intro j hj
    unfold K wn_s at hj
    split at hj
    · rename_i c
      split at hj
      · exact Or.inl ⟨c.1, c.2, by assumption⟩
      · exact absurd rfl hj
    · split at hj
      · rename_i c
        split at hj
        · exact Or.inr ⟨c.1, c.2, by assumption⟩
        · exact absurd rfl hj
      · exact absurd rfl hj
  have hU : ∀ j, Y j - y ≤ 0 → 0 < Y (j + 1) - y → 0 < C j → K j := by
    intro j h1 h2 h3
    have h3 : 0 < (X j - x) * (Y (j + 1) - y) - (Y j - y) * (X (j + 1) - x) := h3
    unfold K wn_s
    rw [if_pos ⟨h1, h2⟩, if_pos h3]
    decide
  have hW : ∀ j, Y (j + 1) - y ≤ 0 → 0 < Y j - y → C j < 0 → K j := by
    intro j h1 h2 h3
    have h3 : (X j - x) * (Y (j + 1) - y) - (Y j - y) * (X (j + 1) - x) < 0 := h3
    unfold K wn_s
    rw [if_neg (by omega), if_pos ⟨h1, h2⟩, if_pos h3]
    decide
  have up : ∀ j, Y j < Y (j + 1) → N j = C j ∧ D j = Y (j + 1) - Y j := fun j h => ⟨if_pos h, if_pos h⟩
  have dn : ∀ j, ¬ Y j < Y (j + 1) → N j = -C j ∧ D j = Y j - Y (j + 1) := fun j h => ⟨if_neg h, if_neg h⟩
  have hD : ∀ j, K j → 0 < D j := by
    intro j hj
    rcases hK j hj with ⟨h1, h2, h3⟩ | ⟨h1, h2, h3⟩
    · rw [(up j (by omega)).2]; omega
    · rw [(dn j (by omega)).2]; omega
  rcases gm_arg (N := N) hD n with h | ⟨k, k1, k2, k3⟩
  · left
    unfold wn_W
    rw [gm_sm_c (g := fun _ => 0) fun j j0 j1 => Decidable.byContradiction fun q => h j j0 j1 q]
    have : ∀ m : Nat, gm_sm (fun _ => 0) m = 0 := by
      intro m
      induction m with
      | zero => rfl
      | succ m ih => exact (congrArg (· + (0 : Int)) ih)
    exact this n
  · right
    have dk := hD _ k2
    have nk : 0 < N k := by
      rcases hK _ k2 with ⟨h1, h2, h3⟩ | ⟨h1, h2, h3⟩
      · rw [(up _ (by omega)).1]; exact h3
      · rw [(dn _ (by omega)).1]; omega
    have e : wn_W X Y n x y = gm_sm (fun j => wn_t (D k * (X j - x) - N k) (D k * (Y j - y)) (D k * (X (j + 1) - x) - N k) (D k * (Y (j + 1) - y))) n := by
      refine gm_sm_c fun j j0 j1 => wn_mv dk nk (fun h1 h2 h3 => ?_) (fun h1 h2 h3 => ?_)
      · have := k3 j j0 j1 (hU j h1 h2 h3)
        rw [(up j (by omega)).1, (up j (by omega)).2] at this
        rw [show Y (j + 1) - y - (Y j - y) = Y (j + 1) - Y j by omega]
        exact this
      · have := k3 j j0 j1 (hW j h1 h2 h3)
        rw [(dn j (by omega)).1, (dn j (by omega)).2] at this
        rw [show Y j - y - (Y (j + 1) - y) = Y j - Y (j + 1) by omega]
        exact this
    have hl : ∀ i, (fun j => wn_t (D k * (X j - x) - N k) (D k * (Y j - y)) (D k * (X (j + 1) - x) - N k) (D k * (Y (j + 1) - y))) (i + n) = (fun j => wn_t (D k * (X j - x) - N k) (D k * (Y j - y)) (D k * (X (j + 1) - x) - N k) (D k * (Y (j + 1) - y))) i := by
      intro i
      show wn_t _ _ _ _ = wn_t _ _ _ _
      rw [show i + (n : Int) + 1 = i + 1 + n by omega, (hP _).1, (hP _).2, (hP _).1, (hP _).2]
    -- the point hit is a corner
    have co : ∀ i : Nat, D k * (x - X i) + N k = 0 → y = Y i → wn_W X Y n x y = wn_V X Y n (X i) (Y i) := by
      intro i h1 h2
      rw [e]
      unfold wn_V
      refine gm_sm_c fun j j0 j1 => ?_
      rw [h2, show D k * (X j - x) - N k = D k * (X j - X i) by grind, show D k * (X (j + 1) - x) - N k = D k * (X (j + 1) - X i) by grind, wn_tc dk]
    have me : ∀ m, 0 < m → m < D k → D k * (x - X k) + N k = m * (X (k + 1) - X k) → D k * (y - Y k) = m * (Y (k + 1) - Y k) → wn_W X Y n x y = wn_R X Y n + wn_e X Y k + wn_u (Y (k + 1) - Y k) - wn_u (-(Y (k + 1) - Y k)) := by
      intro m m0 m1 h1 h2
      rw [e, ← wn_qt hP hA hB hn k m0 m1, ← gm_sm_rot hl k]
      refine gm_sm_c fun j j0 j1 => ?_
      show wn_t _ _ _ _ = wn_t _ _ _ _
      unfold wn_x
      congr 1 <;> grind
    rcases hK _ k2 with ⟨h1, h2, h3⟩ | ⟨h1, h2, h3⟩
    · have u := up k (by omega)
      by_cases z : Y k = y
      · rw [co k (by rw [u.1, u.2]; unfold C; grind) z.symm]
        exact (wn_c2 hP hA hB hn k).2
      · have := me (y - Y k) (by omega) (by omega) (by rw [u.1, u.2]; unfold C; grind) (by rw [u.2]; grind)
        have e1 : wn_e X Y k = 0 := if_neg (by omega)
        have e2 := (wn_u0 (b := Y (k + 1) - Y k)).1 (by omega)
        have e3 := (wn_u0 (b := -(Y (k + 1) - Y k))).2 (by omega)
        omega
    · have u := dn k (by omega)
      by_cases z : Y (k + 1) = y
      · have := (wn_c2 hP hA hB hn (k + 1)).2
        rw [co (k + 1) (by rw [u.1, u.2]; unfold C; rw [show ((k + 1 : Nat) : Int) = k + 1 by omega]; grind) (by rw [show ((k + 1 : Nat) : Int) = k + 1 by omega]; exact z.symm)]
        exact this
      · have := me (Y k - y) (by omega) (by omega) (by rw [u.1, u.2]; unfold C; grind) (by rw [u.2]; grind)
        have e1 : wn_e X Y k = 1 := if_pos (by omega)
        have e2 := (wn_u0 (b := Y (k + 1) - Y k)).2 (by omega)
        have e3 := (wn_u0 (b := -(Y (k + 1) - Y k))).1 (by omega)
        omega
/-- the way around is 0 or -1 at the right hand -/
theorem wn_r0 (hP : WP X Y n) (hA : WA X Y n) (hB : WB X Y) (hn : 3 ≤ n) : wn_R X Y n = 0 ∨ wn_R X Y n = -1 := by
  rcases gm_arg (K := fun _ => True) (N := fun j => - Y j) (D := fun _ => 1) (fun _ _ => by decide) n with h | ⟨k, k1, -, k3⟩
  · exact absurd trivial (h 0 (by omega) (by omega))
  · have hm : ∀ j : Int, 0 ≤ j → j < n → Y j ≤ Y k := fun j j0 j1 => by
      have : -Y k * 1 ≤ -Y j * 1 := k3 j j0 j1 trivial
      omega
    have z : wn_W X Y n (X k) (Y k) = 0 := by
      unfold wn_W
      rw [gm_sm_c (g := fun _ => 0) fun j j0 j1 => ?_]
      · have : ∀ m : Nat, gm_sm (fun _ => 0) m = 0 := by
          intro m
          induction m with
          | zero => rfl
          | succ m ih => exact (congrArg (· + (0 : Int)) ih)
        exact this n
      · have a := hm j j0 j1
        have b : Y (j + 1) ≤ Y k := by
          by_cases c : j + 1 < n
          · exact hm (j + 1) (by omega) c
          · have := (hP 0).2
            rw [show j + 1 = 0 + (n : Int) by omega, this]
            exact hm 0 (by omega) (by omega)
        unfold wn_s
        rw [if_neg (by omega), if_neg (by omega)]
    have a := wn_Wc hP hn k
    have b := (wn_c2 hP hA hB hn k).1
    omega
theorem wn_in (hP : WP X Y n) (hA : WA X Y n) (hB : WB X Y) (hn : 3 ≤ n) (x y : Int) : wn_W X Y n x y = 0 ∨ wn_W X Y n x y = 2 * wn_R X Y n + 1 := by
  have a := wn_r0 hP hA hB hn
  have b := wn_j hP hA hB hn x y
  omega
end PK
/-! the area, by the points of the field -/
theorem gm_sm_z : ∀ m : Nat, gm_sm (fun _ => 0) m = 0
  | 0 => rfl
  | m + 1 => (congrArg (· + (0 : Int)) (gm_sm_z m))
theorem gm_sm_k (c : Int) : ∀ m : Nat, gm_sm (fun _ => c) m = m * c
  | 0 => (Int.zero_mul c).symm
  | m + 1 => by
    rw [gm_sm_l, gm_sm_k c m, show ((m + 1 : Nat) : Int) = (m : Int) + 1 by omega, Int.add_mul, Int.one_mul]
theorem gm_sm_sw (f : Int → Int → Int) (m : Nat) : ∀ n : Nat, gm_sm (fun i => gm_sm (fun j => f i j) m) n = gm_sm (fun j => gm_sm (fun i => f i j) n) m
  | 0 => (gm_sm_z m).symm
  | n + 1 => by
    rw [gm_sm_l, gm_sm_sw f m n, ← gm_sm_add]
    rfl
theorem gm_sm_r (g : Int → Int) : ∀ k : Nat, gm_sm (fun t => g (t + 1)) k = gm_sm (fun t => g (k - t)) k
  | 0 => rfl
  | k + 1 => by
    rw [gm_sm_l, gm_sm_h (fun t => g (((k + 1 : Nat) : Int) - t)) k, gm_sm_r g k, gm_sm_c (f := fun t => g (((k + 1 : Nat) : Int) - (t + 1))) (g := fun t => g (k - t)) fun t _ _ => by show g _ = g _; congr 1; omega]
    rw [show ((k + 1 : Nat) : Int) - 0 = k + 1 by omega]
    omega
theorem gm_cnt {z : Int} (hz : -1 ≤ z) : ∀ m : Nat, gm_sm (fun x => if x ≤ z then 1 else 0) m = if z + 1 ≤ m then z + 1 else m
  | 0 => by
    show (0 : Int) = _
    split <;> omega
  | m + 1 => by
    rw [gm_sm_l, gm_cnt hz m]
    split <;> split <;> split <;> omega
theorem gm_ngd {a b : Int} (hb : 0 < b) : (-a - 1) / b = -(a / b) - 1 := by
  have h1 := Int.emod_nonneg a (show b ≠ 0 by omega)
  have h2 := Int.emod_lt_of_pos a hb
  have h3 := Int.emod_add_mul_ediv a b
  refine ((Int.ediv_emod_unique hb (r := b - 1 - a % b) (q := -(a / b) - 1)).mpr ⟨?_, by omega, by omega⟩).1
  rw [Int.mul_sub, Int.mul_neg, Int.mul_one]
  omega
theorem gm_flc {dx dy : Int} {m : Nat} (hm : dy = m) (h : 0 < dy) : gm_sm (fun t => dx * t / dy + ((dx * t - 1) / dy + 1)) m = dx * dy - dx := by
  obtain ⟨k, rfl⟩ : ∃ k, m = k + 1 := ⟨m - 1, by omega⟩
  rw [gm_sm_h, gm_sm_add, gm_sm_r (fun t => (dx * t - 1) / dy + 1) k, ← gm_sm_add]
  have z : dx * 0 / dy + ((dx * 0 - 1) / dy + 1) = 0 := by
    rw [Int.mul_zero, Int.zero_ediv, show (0 : Int) - 1 = -0 - 1 by omega, gm_ngd h, Int.zero_ediv]
    rfl
  rw [z, gm_sm_c (g := fun _ => dx) fun t t0 t1 => ?_, gm_sm_k, hm]
  · rw [show ((k + 1 : Nat) : Int) = (k : Int) + 1 by omega, Int.mul_add, Int.mul_one, Int.mul_comm]
    omega
  · show dx * (t + 1) / dy + ((dx * (k - t) - 1) / dy + 1) = dx
    have e : dx * (k - t) - 1 = (-(dx * (t + 1)) - 1) + dx * dy := by
      rw [hm, show ((k + 1 : Nat) : Int) = (k : Int) + 1 by omega]
      grind
    rw [e, Int.add_mul_ediv_right _ _ (by omega), gm_ngd h]
    omega
theorem gm_sm_w {g : Int → Int} {a b : Int} (ha : 0 ≤ a) (hab : a ≤ b) : ∀ m : Nat, b ≤ m → gm_sm (fun y => if a ≤ y ∧ y < b then g y else 0) m = gm_sm (fun t => g (a + t)) (b - a).toNat := by
  have h1 : ∀ m : Nat, (m : Int) ≤ a → gm_sm (fun y => if a ≤ y ∧ y < b then g y else 0) m = 0 := fun m hm => by
    rw [gm_sm_c (g := fun _ => 0) fun y y0 y1 => if_neg (by omega)]
    exact gm_sm_z m
  have h2 : ∀ k : Nat, a + k ≤ b → gm_sm (fun y => if a ≤ y ∧ y < b then g y else 0) (a.toNat + k) = gm_sm (fun t => g (a + t)) k := by
    intro k
    induction k with
    | zero => intro _; exact h1 _ (by omega)
    | succ k ih =>
      intro hk
      rw [← Nat.add_assoc, gm_sm_l, gm_sm_l, ih (by omega), if_pos (by omega), show ((a.toNat + k : Nat) : Int) = a + k by omega]
  intro m hm
  have h3 : ∀ k : Nat, gm_sm (fun y => if a ≤ y ∧ y < b then g y else 0) (b.toNat + k) = gm_sm (fun t => g (a + t)) (b - a).toNat := by
    intro k
    induction k with
    | zero =>
      have := h2 (b - a).toNat (by omega)
      rw [show a.toNat + (b - a).toNat = b.toNat by omega] at this
      exact this
    | succ k ih =>
      rw [← Nat.add_assoc, gm_sm_l, ih, if_neg (by omega)]
      omega
  have := h3 (m - b.toNat)
  rw [show b.toNat + (m - b.toNat) = m by omega] at this
  exact this
theorem wn_as (a b c d : Int) : wn_s c d a b = - wn_s a b c d ∧ wn_t c d a b = - wn_t a b c d := by
  have e : c * b - d * a = -(a * d - b * c) := by grind
  unfold wn_s wn_t
  rw [e]
  generalize a * d - b * c = z
  constructor
  · by_cases h1 : b ≤ 0 ∧ 0 < d
    · rw [if_pos h1, if_neg (show ¬ (d ≤ 0 ∧ 0 < b) by omega), if_pos h1]
      split <;> split <;> omega
    · by_cases h2 : d ≤ 0 ∧ 0 < b
      · rw [if_pos h2, if_neg h1, if_pos h2]
        split <;> split <;> omega
      · rw [if_neg h1, if_neg h2, if_neg h1, if_neg h2]
        rfl
  · by_cases h1 : b ≤ 0 ∧ 0 < d
    · rw [if_pos h1, if_neg (show ¬ (d ≤ 0 ∧ 0 < b) by omega), if_pos h1]
      split <;> split <;> omega
    · by_cases h2 : d ≤ 0 ∧ 0 < b
      · rw [if_pos h2, if_neg h1, if_pos h2]
        split <;> split <;> omega
      · rw [if_neg h1, if_neg h2, if_neg h1, if_neg h2]
        rfl
def wn_o (x1 y1 x2 y2 x y : Int) : Int := wn_s (x1 - x) (y1 - y) (x2 - x) (y2 - y) + wn_t (x1 - x) (y1 - y) (x2 - x) (y2 - y)
theorem wn_row {x1 y1 x2 y2 y : Int} {m : Nat} (a1 : 0 ≤ x1 ∧ x1 < m) (a2 : 0 ≤ x2 ∧ x2 < m) (h1 : y1 ≤ y) (h2 : y < y2) : gm_sm (fun x => wn_o x1 y1 x2 y2 x y) m = 2 * x1 + 1 + ((x2 - x1) * (y - y1) / (y2 - y1) + (((x2 - x1) * (y - y1) - 1) / (y2 - y1) + 1)) := by
  have dy : 0 < y2 - y1 := by omega
  have e : ∀ x, (x1 - x) * (y2 - y) - (y1 - y) * (x2 - x) = x1 * (y2 - y1) + (x2 - x1) * (y - y1) - x * (y2 - y1) := fun x => by grind
  have t : ∀ z, gm_sm (fun x => if x * (y2 - y1) ≤ z then (1 : Int) else 0) m = gm_sm (fun x => if x ≤ z / (y2 - y1) then 1 else 0) m := by
    intro z
    refine gm_sm_c fun x _ _ => ?_
    have := Int.le_ediv_iff_mul_le (a := x) (b := z) dy
    by_cases c : x ≤ z / (y2 - y1)
    · rw [if_pos c, if_pos (this.mp c)]
    · rw [if_neg c, if_neg (fun k => c (this.mpr k))]
  have s1 : gm_sm (fun x => wn_o x1 y1 x2 y2 x y) m = gm_sm (fun x => if x * (y2 - y1) ≤ x1 * (y2 - y1) + (x2 - x1) * (y - y1) - 1 then (1 : Int) else 0) m + gm_sm (fun x => if x * (y2 - y1) ≤ x1 * (y2 - y1) + (x2 - x1) * (y - y1) then (1 : Int) else 0) m := by
    rw [← gm_sm_add]
    refine gm_sm_c fun x _ _ => ?_
    have c : y1 - y ≤ 0 ∧ 0 < y2 - y := by omega
    unfold wn_o wn_s wn_t
    rw [if_pos c, if_pos c, e]
    congr 1
    · split <;> split <;> omega
    · split <;> split <;> omega
  have M0 : 0 ≤ x1 * (y2 - y1) + (x2 - x1) * (y - y1) := by
    have p1 := Int.mul_nonneg a1.1 (show 0 ≤ y2 - y by omega)
    have p2 := Int.mul_nonneg a2.1 (show 0 ≤ y - y1 by omega)
    grind
  have M1 : x1 * (y2 - y1) + (x2 - x1) * (y - y1) < m * (y2 - y1) := by
    have p1 := Int.mul_pos (show 0 < (m : Int) - x1 by omega) (show 0 < y2 - y by omega)
    have p2 := Int.mul_nonneg (show 0 ≤ (m : Int) - x2 by omega) (show 0 ≤ y - y1 by omega)
    grind
  have q1 := (Int.le_ediv_iff_mul_le (a := 0) (b := x1 * (y2 - y1) + (x2 - x1) * (y - y1)) dy).mpr (by rw [Int.zero_mul]; exact M0)
  have q2 := (Int.ediv_lt_iff_lt_mul (a := x1 * (y2 - y1) + (x2 - x1) * (y - y1)) (b := m) dy).mpr M1
  have q3 := (Int.le_ediv_iff_mul_le (a := -1) (b := x1 * (y2 - y1) + (x2 - x1) * (y - y1) - 1) dy).mpr (by omega)
  have q4 := (Int.ediv_lt_iff_lt_mul (a := x1 * (y2 - y1) + (x2 - x1) * (y - y1) - 1) (b := m) dy).mpr (by omega)
  rw [s1, t, t, gm_cnt q3, gm_cnt (by omega), if_pos (by omega), if_pos (by omega)]
  have f1 : (x1 * (y2 - y1) + (x2 - x1) * (y - y1)) / (y2 - y1) = x1 + (x2 - x1) * (y - y1) / (y2 - y1) := by
    rw [Int.add_comm, Int.add_mul_ediv_right _ _ (by omega)]
    omega
  have f2 : (x1 * (y2 - y1) + (x2 - x1) * (y - y1) - 1) / (y2 - y1) = x1 + ((x2 - x1) * (y - y1) - 1) / (y2 - y1) := by
    rw [show x1 * (y2 - y1) + (x2 - x1) * (y - y1) - 1 = (x2 - x1) * (y - y1) - 1 + x1 * (y2 - y1) by omega, Int.add_mul_ediv_right _ _ (by omega)]
    omega
  rw [f1, f2]
  omega
theorem wn_up {x1 y1 x2 y2 : Int} {m l : Nat} (a1 : 0 ≤ x1 ∧ x1 < m) (a2 : 0 ≤ x2 ∧ x2 < m) (b1 : 0 ≤ y1) (b2 : y2 < l) (h : y1 < y2) : gm_sm (fun y => gm_sm (fun x => wn_o x1 y1 x2 y2 x y) m) l = (y2 - y1) * (x1 + x2) - (x2 - x1) + (y2 - y1) := by
  have e : gm_sm (fun y => gm_sm (fun x => wn_o x1 y1 x2 y2 x y) m) l = gm_sm (fun y => if y1 ≤ y ∧ y < y2 then 2 * x1 + 1 + ((x2 - x1) * (y - y1) / (y2 - y1) + (((x2 - x1) * (y - y1) - 1) / (y2 - y1) + 1)) else 0) l := by
    refine gm_sm_c fun y _ _ => ?_
    by_cases c : y1 ≤ y ∧ y < y2
    · rw [if_pos c]; exact wn_row a1 a2 c.1 c.2
    · rw [if_neg c, gm_sm_c (g := fun _ => 0) fun x _ _ => ?_]
      · exact gm_sm_z m
      · unfold wn_o wn_s wn_t
        rw [if_neg (by omega), if_neg (by omega), if_neg (by omega), if_neg (by omega)]
        rfl
  rw [e, gm_sm_w b1 (Int.le_of_lt h) l (by omega), gm_sm_add, gm_sm_k, gm_sm_c (g := fun t => (x2 - x1) * t / (y2 - y1) + (((x2 - x1) * t - 1) / (y2 - y1) + 1)) fun t _ _ => by show _ = _; rw [show y1 + t - y1 = t by omega], gm_flc (by omega) (by omega)]
  rw [show (((y2 - y1).toNat : Nat) : Int) = y2 - y1 by omega]
  grind
theorem wn_sd {x1 y1 x2 y2 : Int} {m l : Nat} (a1 : 0 ≤ x1 ∧ x1 < m) (a2 : 0 ≤ x2 ∧ x2 < m) (b1 : 0 ≤ y1 ∧ y1 < l) (b2 : 0 ≤ y2 ∧ y2 < l) : gm_sm (fun y => gm_sm (fun x => wn_o x1 y1 x2 y2 x y) m) l = (y2 - y1) * (x1 + x2) - (x2 - x1) + (y2 - y1) + if y1 = y2 then x2 - x1 else 0 := by
  rcases Int.lt_trichotomy y1 y2 with c | c | c
  · rw [if_neg (by omega), wn_up a1 a2 b1.1 b2.2 c]; omega
  · subst c
    rw [if_pos rfl, gm_sm_c (g := fun _ => 0) fun y _ _ => ?_, gm_sm_z, Int.sub_self, Int.zero_mul]
    · omega
    · rw [gm_sm_c (g := fun _ => 0) fun x _ _ => ?_]
      · exact gm_sm_z m
      · unfold wn_o wn_s wn_t
        rw [if_neg (by omega), if_neg (by omega), if_neg (by omega), if_neg (by omega)]
        rfl
  · have := wn_up a2 a1 b2.1 b1.2 c
    rw [if_neg (by omega), gm_sm_c (g := fun y => -1 * gm_sm (fun x => wn_o x2 y2 x1 y1 x y) m) fun y _ _ => ?_]
    · rw [show gm_sm (fun y => -1 * gm_sm (fun x => wn_o x2 y2 x1 y1 x y) m) l = 0 - gm_sm (fun y => gm_sm (fun x => wn_o x2 y2 x1 y1 x y) m) l by
        rw [← gm_sm_z l, ← gm_sm_sub]
        exact gm_sm_c fun t _ _ => by show -1 * _ = 0 - _; omega, this]
      grind
    · show _ = -1 * _
      rw [show (-1 : Int) * gm_sm (fun x => wn_o x2 y2 x1 y1 x y) m = gm_sm (fun _ => 0) m - gm_sm (fun x => wn_o x2 y2 x1 y1 x y) m by rw [gm_sm_z]; omega, ← gm_sm_sub]
      refine gm_sm_c fun x _ _ => ?_
      unfold wn_o
      rw [(wn_as _ _ _ _).1, (wn_as _ _ _ _).2]
      omega
