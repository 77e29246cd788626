/-! The text that the law writes: its tokens. -/
/-- these letters stand there -/
def ATL (tx : Int → Int) (s : Int) (X : List Int) : Prop := ∀ (k : Nat) (c : Int), X[k]? = some c → tx (s + k) = c
theorem ATL.app {tx : Int → Int} {s : Int} {X Y : List Int} (h : ATL tx s (X ++ Y)) : ATL tx s X ∧ ATL tx (s + X.length) Y := by
  refine ⟨fun k c e => ?_, fun k c e => ?_⟩
  · have := (List.getElem?_eq_some_iff.mp e).1
    exact h k c (by rw [List.getElem?_append_left this]; exact e)
  · have := h (X.length + k) c (by rw [List.getElem?_append_right (Nat.le_add_right _ _), Nat.add_sub_cancel_left]; exact e)
    rw [← this]
    congr 1
    omega
/-- a figure or a small letter -/
def gx_al (c : Int) : Prop := (48 ≤ c ∧ c ≤ 57) ∨ (97 ≤ c ∧ c ≤ 122)
/-- from s to e the text has these tokens -/
def LX (tx : Int → Int) (len s e : Int) (l : List (Int × Int)) : Prop := ∃ (n : Nat) (ls : List (Int × Int × Int)), (n : Int) ≤ e - s ∧ (∀ m, gm_to tx len (n + m) s = ls ++ gm_to tx len m e) ∧ ls.map (fun o => (o.1, o.2.2)) = l
theorem LX.tr {tx : Int → Int} {len s e f : Int} {l l' : List (Int × Int)} (a : LX tx len s e l) (b : LX tx len e f l') : LX tx len s f (l ++ l') := by
  obtain ⟨n, ls, hn, h, hl⟩ := a
  obtain ⟨n', ls', hn', h', hl'⟩ := b
  refine ⟨n + n', ls ++ ls', by omega, fun m => ?_, by rw [List.map_append, hl, hl']⟩
  rw [Nat.add_assoc, h, h', List.append_assoc]
def SEP (X : List Int) (l : List (Int × Int)) : Prop := ∀ (tx : Int → Int) (len s : Int), 0 ≤ s → s + X.length ≤ len → len ≤ 800 → ATL tx s X → LX tx len s (s + X.length) l
def SEG (X : List Int) (l : List (Int × Int)) : Prop := ∀ (tx : Int → Int) (len s : Int), 0 ≤ s → s + X.length ≤ len → len ≤ 800 → ATL tx s X → (s + X.length = len ∨ ¬ gx_al (tx (s + X.length))) → LX tx len s (s + X.length) l
theorem SEP.seg {X : List Int} {l : List (Int × Int)} (h : SEP X l) : SEG X l := fun tx len s a b c d _ => h tx len s a b c d
theorem SEP.app {X Y : List Int} {l l' : List (Int × Int)} (h : SEP X l) (h' : SEP Y l') : SEP (X ++ Y) (l ++ l') := fun tx len s a b c d => by
  rw [List.length_append] at b ⊢
  obtain ⟨d1, d2⟩ := d.app
  have := (h tx len s a (by omega) c d1).tr (h' tx len (s + X.length) (by omega) (by omega) c d2)
  rw [show s + ((X.length + Y.length : Nat) : Int) = s + X.length + Y.length by omega]
  exact this
theorem SEP.sg {X Y : List Int} {l l' : List (Int × Int)} (h : SEP X l) (h' : SEG Y l') : SEG (X ++ Y) (l ++ l') := fun tx len s a b c d n => by
  rw [List.length_append] at b n ⊢
  have e : s + ((X.length + Y.length : Nat) : Int) = s + X.length + Y.length := by omega
  rw [e] at n ⊢
  obtain ⟨d1, d2⟩ := d.app
  exact (h tx len s a (by omega) c d1).tr (h' tx len (s + X.length) (by omega) (by omega) c d2 n)
theorem gx_hd {tx : Int → Int} {s c : Int} {Y : List Int} (h : ATL tx s (c :: Y)) : tx s = c := by
  have := h 0 c rfl
  rwa [show s + ((0 : Nat) : Int) = s by omega] at this
theorem SEG.sp {X Y : List Int} {c0 : Int} {l l' : List (Int × Int)} (h : SEG X l) (h' : SEP (c0 :: Y) l') (n : ¬ gx_al c0) : SEP (X ++ c0 :: Y) (l ++ l') := fun tx len s a b c d => by
  rw [List.length_append] at b ⊢
  rw [show s + ((X.length + (c0 :: Y).length : Nat) : Int) = s + X.length + (c0 :: Y).length by omega]
  obtain ⟨d1, d2⟩ := d.app
  exact (h tx len s a (by omega) c d1 (Or.inr (by rw [gx_hd d2]; exact n))).tr (h' tx len (s + X.length) (by omega) (by omega) c d2)
theorem SEG.sg {X Y : List Int} {c0 : Int} {l l' : List (Int × Int)} (h : SEG X l) (h' : SEG (c0 :: Y) l') (n : ¬ gx_al c0) : SEG (X ++ c0 :: Y) (l ++ l') := fun tx len s a b c d e => by
  rw [List.length_append] at b e ⊢
  have e1 : s + ((X.length + (c0 :: Y).length : Nat) : Int) = s + X.length + (c0 :: Y).length := by omega
  rw [e1] at e ⊢
  obtain ⟨d1, d2⟩ := d.app
  exact (h tx len s a (by omega) c d1 (Or.inr (by rw [gx_hd d2]; exact n))).tr (h' tx len (s + X.length) (by omega) (by omega) c d2 e)
theorem SEP.nil : SEP [] [] := fun tx len s a b c d => by
  rw [List.length_nil]
  exact ⟨0, [], by omega, fun m => by rw [Nat.zero_add, List.nil_append]; congr 1; omega, rfl⟩
theorem SEP.b : SEP [32] [] := fun tx len s a b c d => by
  rw [List.length_singleton] at b ⊢
  exact ⟨1, [], by omega, fun m => (gm_to_b (Nat.add_comm 1 m) (by omega) (gx_hd d)).trans rfl, rfl⟩
theorem SEP.y {z : Int} (hz : ¬ gx_al z) (h32 : z ≠ 32) : SEP [z] [(gm_ks z, 0)] := fun tx len s a b c d => by
  rw [List.length_singleton] at b ⊢
  have e := gx_hd d
  unfold gx_al at hz
  refine ⟨1, [(gm_ks z, s, 0)], by omega, fun m => ?_, rfl⟩
  rw [gm_to_s (Nat.add_comm 1 m) (by omega) (by rw [e]; omega) (by rw [e]; omega) (by rw [e]; exact h32), e]
  rfl
theorem gm_va_s {tx : Int → Int} {s v d : Int} {k : Nat} (hv : gm_va tx s k = v) (ht : tx (s + k) = 48 + d) (hb : 10 * v + d ≤ 10000) : gm_va tx s (k + 1) = 10 * v + d := by
  rw [gm_va, hv, ht, if_neg (by omega)]
  omega
theorem gm_dl_c (n : Int) : (n < 10 ∧ gm_dl n = [48 + n]) ∨ (10 ≤ n ∧ n < 100 ∧ gm_dl n = [48 + n / 10, 48 + n % 10]) ∨ (100 ≤ n ∧ n < 1000 ∧ gm_dl n = [48 + n / 100, 48 + n / 10 % 10, 48 + n % 10]) ∨ (1000 ≤ n ∧ gm_dl n = [48 + n / 1000, 48 + n / 100 % 10, 48 + n / 10 % 10, 48 + n % 10]) := by
  unfold gm_dl
  by_cases a : n < 10
  · rw [if_pos a]; exact Or.inl ⟨a, rfl⟩
  · rw [if_neg a]
    by_cases b : n < 100
    · rw [if_pos b]; exact Or.inr (Or.inl ⟨by omega, b, rfl⟩)
    · rw [if_neg b]
      by_cases c : n < 1000
      · rw [if_pos c]; exact Or.inr (Or.inr (Or.inl ⟨by omega, c, rfl⟩))
      · rw [if_neg c]; exact Or.inr (Or.inr (Or.inr ⟨by omega, rfl⟩))
theorem gm_dl_v {tx : Int → Int} {s n : Int} (n0 : 0 ≤ n) (n1 : n ≤ 9999) (h : ATL tx s (gm_dl n)) : gm_va tx s (gm_dl n).length = n ∧ (∀ k : Nat, k < (gm_dl n).length → gm_dg (tx (s + k))) ∧ 0 < (gm_dl n).length := by
  unfold gm_dg
  have z0 : gm_va tx s 0 = 0 := rfl
  rcases gm_dl_c n with ⟨a, e⟩ | ⟨a, b, e⟩ | ⟨a, b, e⟩ | ⟨a, e⟩ <;> rw [e] at h ⊢
  · have t0 := h 0 _ rfl
    have v1 := gm_va_s z0 t0 (by omega)
    refine ⟨v1.trans (by omega), fun k hk => ?_, Nat.zero_lt_succ _⟩
    have hk : k < 1 := hk
    obtain rfl : k = 0 := by omega
    omega
  · have t0 := h 0 _ rfl
    have t1 := h 1 _ rfl
    have v1 := gm_va_s z0 t0 (by omega)
    have v2 := gm_va_s v1 t1 (by omega)
    refine ⟨v2.trans (by omega), fun k hk => ?_, Nat.zero_lt_succ _⟩
    have hk : k < 2 := hk
    rcases (show k = 0 ∨ k = 1 by omega) with rfl | rfl <;> omega
  · have t0 := h 0 _ rfl
    have t1 := h 1 _ rfl
    have t2 := h 2 _ rfl
    have v1 := gm_va_s z0 t0 (by omega)
    have v2 := gm_va_s v1 t1 (by omega)
    have v3 := gm_va_s v2 t2 (by omega)
    refine ⟨v3.trans (by omega), fun k hk => ?_, Nat.zero_lt_succ _⟩
    have hk : k < 3 := hk
    rcases (show k = 0 ∨ k = 1 ∨ k = 2 by omega) with rfl | rfl | rfl <;> omega
  · have t0 := h 0 _ rfl
    have t1 := h 1 _ rfl
    have t2 := h 2 _ rfl
    have t3 := h 3 _ rfl
    have v1 := gm_va_s z0 t0 (by omega)
    have v2 := gm_va_s v1 t1 (by omega)
    have v3 := gm_va_s v2 t2 (by omega)
    have v4 := gm_va_s v3 t3 (by omega)
    refine ⟨v4.trans (by omega), fun k hk => ?_, Nat.zero_lt_succ _⟩
    have hk : k < 4 := hk
    rcases (show k = 0 ∨ k = 1 ∨ k = 2 ∨ k = 3 by omega) with rfl | rfl | rfl | rfl <;> omega
theorem SEG.dl {n : Int} (n0 : 0 ≤ n) (n1 : n ≤ 9999) : SEG (gm_dl n) [(2, n)] := fun tx len s a b c d e => by
  obtain ⟨v, g, p⟩ := gm_dl_v n0 n1 d
  have g0 := g 0 p
  rw [show s + ((0 : Nat) : Int) = s by omega] at g0
  have er : gm_er tx len 48 57 s (s + (gm_dl n).length) := by
    refine ⟨⟨by omega, b⟩, fun k k0 k1 => ?_, e.imp id fun x y => x (Or.inl y)⟩
    have := g (k - s).toNat (by omega)
    rwa [show s + ((k - s).toNat : Int) = k by omega] at this
  refine ⟨1, [(2, s, n)], by omega, fun m => ?_, rfl⟩
  have q := gm_to_d (Nat.add_comm 1 m) (by omega) c a g0 er
  rw [show (s + ((gm_dl n).length : Int) - s).toNat = (gm_dl n).length by omega, v] at q
  exact q
/-- words -/
abbrev gx_iw (i : Nat) (X : List Int) : Prop := am_len i = X.length ∧ ∀ k, k < am_len i → X[k]? = some (am_byt i k)
def gx_kw (X : List Int) : Int := if gx_iw 1 X then 3 else if gx_iw 2 X then 4 else if gx_iw 3 X then 5 else if gx_iw 4 X then 6 else if gx_iw 5 X then -1 else if gx_iw 6 X then -2 else if gx_iw 7 X then -3 else if gx_iw 8 X then -4 else if gx_iw 9 X then -5 else 1
theorem gm_wd_x {i : Nat} {tx : Int → Int} {s : Int} {X : List Int} (h : ATL tx s X) : gm_wd i tx s (s + X.length) ↔ gx_iw i X := by
  refine ⟨fun ⟨a, b⟩ => ⟨by omega, fun k hk => ?_⟩, fun ⟨a, b⟩ => ⟨by omega, fun k hk => h k _ (b k hk)⟩⟩
  have e : X[k]? = some X[k] := List.getElem?_eq_getElem (by omega)
  rw [e, ← h k _ e, b k hk]
theorem gm_kw_x {tx : Int → Int} {s : Int} {X : List Int} (h : ATL tx s X) : gm_kw tx s (s + X.length) = gx_kw X := by
  unfold gm_kw gx_kw
  simp only [gm_wd_x h]
theorem SEG.wd {X : List Int} {k : Int} (hk : gx_kw X = k) (hX : X ≠ []) (hc : ∀ c ∈ X, 97 ≤ c ∧ c ≤ 122) : SEG X [(k, 0)] := fun tx len s a b c d e => by
  have lt : ∀ j : Nat, j < X.length → 97 ≤ tx (s + j) ∧ tx (s + j) ≤ 122 := fun j hj => by
    have q : X[j]? = some X[j] := List.getElem?_eq_getElem hj
    rw [d j _ q]
    exact hc _ (List.getElem_mem hj)
  have p := List.length_pos_iff.mpr hX
  have g0 := lt 0 p
  rw [show s + ((0 : Nat) : Int) = s by omega] at g0
  have er : gm_er tx len 97 122 s (s + X.length) := by
    refine ⟨⟨by omega, b⟩, fun k k0 k1 => ?_, e.imp id fun x y => x (Or.inr y)⟩
    have := lt (k - s).toNat (by omega)
    rwa [show s + ((k - s).toNat : Int) = k by omega] at this
  refine ⟨1, [(k, s, 0)], by omega, fun m => ?_, rfl⟩
  have q := gm_to_w (Nat.add_comm 1 m) (by omega) c a g0 er
  rw [gm_kw_x d, hk] at q
  exact q
def gx_tn (f : Int → Int) : Nat → List (Int × Int)
  | 0 => []
  | n + 1 => gx_tn f n ++ [(2, f n)]
theorem SEG.nums {X : List Int} {l : List (Int × Int)} {f : Int → Int} (h : SEG X l) : ∀ n : Nat, (∀ i : Int, 0 ≤ i → i < n → 0 ≤ f i ∧ f i ≤ 9999) → SEG (X ++ gx_nums f n) (l ++ gx_tn f n)
  | 0, _ => by rw [show gx_nums f 0 = [] from rfl, show gx_tn f 0 = [] from rfl, List.append_nil, List.append_nil]; exact h
  | n + 1, hf => by
    have e := hf n (by omega) (by omega)
    have := (SEG.nums h n (fun i i0 i1 => hf i i0 (by omega))).sg (SEP.b.sg (SEG.dl e.1 e.2)) (c0 := 32) (by unfold gx_al; omega)
    rw [show gx_nums f (n + 1) = gx_nums f n ++ (32 :: gm_dl (f n)) from rfl, show gx_tn f (n + 1) = gx_tn f n ++ [(2, f n)] from rfl, ← List.append_assoc, ← List.append_assoc]
    exact this
/-- what the reader sees of a text -/
theorem SEP.rd {Z : List Int} {l : List (Int × Int)} (h : SEP Z l) {tx : Int → Int} (d : ATL tx 0 Z) (hl : (Z.length : Int) ≤ 800) {kd st vl : Int → Int} (hT : TKA kd st vl (gm_to tx Z.length 801 0)) : ∀ (k : Nat) (o : Int × Int), (l ++ [(0, 0)])[k]? = some o → kd k = o.1 ∧ vl k = o.2 := by
  obtain ⟨n, ls, hn, ht, e⟩ := h tx Z.length 0 (by omega) (by omega) hl d
  rw [show (0 : Int) + Z.length = Z.length by omega] at hn ht
  have q := ht (801 - n)
  rw [show n + (801 - n) = 801 by omega, gm_to_e (by omega) (Int.le_refl _)] at q
  rw [q] at hT
  intro k o ho
  have m : (ls ++ [((0 : Int), (Z.length : Int), (0 : Int))]).map (fun o => (o.1, o.2.2)) = l ++ [(0, 0)] := by rw [List.map_append, e]; rfl
  rw [← m, List.getElem?_map] at ho
  cases c : (ls ++ [((0 : Int), (Z.length : Int), (0 : Int))])[k]? with
  | none => rw [c] at ho; cases ho
  | some x =>
    rw [c] at ho
    cases ho
    have := hT.1 k x c
    exact ⟨this.1, this.2.2⟩
