/-! the model's reader: tokens and bytes. -/
/-- what a token from a to e is -/
def TKE (tx : Int → Int) (len k a v e : Int) : Prop := (gm_dg (tx a) ∧ k = 2 ∧ gm_er tx len 48 57 a e ∧ v = gm_va tx a (e - a).toNat) ∨ ((97 ≤ tx a ∧ tx a ≤ 122) ∧ k = gm_kw tx a e ∧ gm_er tx len 97 122 a e) ∨ (¬ gm_dg (tx a) ∧ ¬ (97 ≤ tx a ∧ tx a ≤ 122) ∧ tx a ≠ 32 ∧ k = gm_ks (tx a) ∧ e = a + 1)
/-- from s on the text holds these tokens -/
def TL (tx : Int → Int) (len : Int) : Int → List (Int × Int × Int) → Prop
  | _, [] => False
  | s, o :: r => s ≤ o.2.1 ∧ (∀ j, s ≤ j → j < o.2.1 → tx j = 32) ∧ ((o.1 = 0 ∧ o.2.1 = len ∧ r = []) ∨ (o.2.1 < len ∧ ∃ e, o.2.1 < e ∧ e ≤ len ∧ TKE tx len o.1 o.2.1 o.2.2 e ∧ TL tx len e r))
theorem gm_er_gt {tx : Int → Int} {len a b s z : Int} (h : gm_er tx len a b s z) (hs : s < len) (hx : a ≤ tx s ∧ tx s ≤ b) : s < z := by
  obtain ⟨⟨h1, h2⟩, h3, h4⟩ := h
  by_cases c : z = s
  · subst c
    rcases h4 with q | q
    · omega
    · exact absurd hx q
  · omega
theorem TL.sp {tx : Int → Int} {len s : Int} {l : List (Int × Int × Int)} (h : TL tx len (s + 1) l) (hx : tx s = 32) : TL tx len s l := by
  cases l with
  | nil => exact h
  | cons o r =>
    obtain ⟨h1, h2, h3⟩ := h
    refine ⟨by omega, fun j j0 j1 => ?_, h3⟩
    by_cases c : j = s
    · rw [c]; exact hx
    · exact h2 j (by omega) j1
theorem gm_to_TL {tx : Int → Int} {len : Int} (hl : len ≤ 800) : ∀ (f : Nat) (s : Int), 0 ≤ s → s ≤ len → len - s < f → TL tx len s (gm_to tx len f s)
  | 0, s, h0, h1, h2 => by omega
  | f + 1, s, h0, h1, h2 => by
    unfold gm_to
    by_cases c : len ≤ s
    · rw [if_pos c]
      exact ⟨h1, fun j j0 j1 => absurd j1 (by show ¬ j < len; omega), Or.inl ⟨rfl, rfl, rfl⟩⟩
    · rw [if_neg c]
      by_cases d : 48 ≤ tx s ∧ tx s ≤ 57
      · rw [if_pos d]
        have e := gm_ru_er (tx := tx) (len := len) (a := 48) (b := 57) (n := 800) (s := s) h1 (by omega)
        have g := gm_er_gt e (by omega) d
        exact ⟨Int.le_refl _, fun j j0 j1 => absurd j1 (by show ¬ j < s; omega), Or.inr ⟨by show s < len; omega, _, g, e.1.2, Or.inl ⟨d, rfl, e, rfl⟩, gm_to_TL hl f _ (by omega) e.1.2 (by omega)⟩⟩
      · rw [if_neg d]
        by_cases w : 97 ≤ tx s ∧ tx s ≤ 122
        · rw [if_pos w]
          have e := gm_ru_er (tx := tx) (len := len) (a := 97) (b := 122) (n := 800) (s := s) h1 (by omega)
          have g := gm_er_gt e (by omega) w
          exact ⟨Int.le_refl _, fun j j0 j1 => absurd j1 (by show ¬ j < s; omega), Or.inr ⟨by show s < len; omega, _, g, e.1.2, Or.inr (Or.inl ⟨w, rfl, e⟩), gm_to_TL hl f _ (by omega) e.1.2 (by omega)⟩⟩
        · rw [if_neg w]
          by_cases b : tx s ≠ 32
          · rw [if_pos b]
            exact ⟨Int.le_refl _, fun j j0 j1 => absurd j1 (by show ¬ j < s; omega), Or.inr ⟨by show s < len; omega, s + 1, by show s < s + 1; omega, by omega, Or.inr (Or.inr ⟨d, w, b, rfl, rfl⟩), gm_to_TL hl f _ (by omega) (by omega) (by omega)⟩⟩
          · rw [if_neg b]
            exact (gm_to_TL hl f (s + 1) (by omega) (by omega) (by omega)).sp (by omega)
/-- before token i there are only spaces from e on -/
def TPs (tx st : Int → Int) (e i : Int) : Prop := e ≤ st i ∧ ∀ j, e ≤ j → j < st i → tx j = 32
/-- the tokens in their arrays: N is the last one's number -/
def TG (tx kd st vl : Int → Int) (len N : Int) : Prop := ∀ i, 0 ≤ i → i ≤ N → (i = N ∧ kd i = 0 ∧ st i = len) ∨ (i < N ∧ 0 ≤ st i ∧ st i < len ∧ ∃ e, st i < e ∧ e ≤ len ∧ TKE tx len (kd i) (st i) (vl i) e ∧ TPs tx st e (i + 1))
theorem TL.tg {tx kd st vl : Int → Int} {len : Int} : ∀ {l : List (Int × Int × Int)} {s : Int} {i0 : Nat}, TL tx len s l → 0 ≤ s → (∀ (k : Nat) (o : Int × Int × Int), l[k]? = some o → kd ((i0 + k : Nat) : Int) = o.1 ∧ st ((i0 + k : Nat) : Int) = o.2.1 ∧ vl ((i0 + k : Nat) : Int) = o.2.2) → TPs tx st s i0 ∧ ∀ i : Int, (i0 : Int) ≤ i → i ≤ (i0 : Int) + l.length - 1 → (i = (i0 : Int) + l.length - 1 ∧ kd i = 0 ∧ st i = len) ∨ (i < (i0 : Int) + l.length - 1 ∧ 0 ≤ st i ∧ st i < len ∧ ∃ e, st i < e ∧ e ≤ len ∧ TKE tx len (kd i) (st i) (vl i) e ∧ TPs tx st e (i + 1))
  | [], _, _, h, _, _ => h.elim
  | o :: r, s, i0, h, s0, ha => by
    obtain ⟨h1, h2, h3⟩ := h
    obtain ⟨a1, a2, a3⟩ := ha 0 o rfl
    rw [Nat.add_zero] at a1 a2 a3
    refine ⟨⟨by rw [a2]; exact h1, fun j j0 j1 => h2 j j0 (by rw [a2] at j1; exact j1)⟩, fun i i0' i1 => ?_⟩
    rcases h3 with ⟨b1, b2, rfl⟩ | ⟨b1, e, b2, b3, b4, b5⟩
    · simp only [List.length_cons, List.length_nil] at i1 ⊢
      have : i = (i0 : Int) := by omega
      subst this
      exact Or.inl ⟨by omega, a1.trans b1, a2.trans b2⟩
    · have ih := TL.tg (i0 := i0 + 1) b5 (by omega) (fun k q hq => by
        have := ha (k + 1) q hq
        rw [show i0 + (k + 1) = i0 + 1 + k by omega] at this
        exact this)
      have hr : r ≠ [] := fun q => by subst q; exact b5
      have hl : 1 ≤ r.length := by
        cases r with
        | nil => exact absurd rfl hr
        | cons _ _ => simp
      simp only [List.length_cons] at i1 ⊢
      by_cases c : i = (i0 : Int)
      · subst c
        refine Or.inr ⟨by omega, by omega, by omega, e, by omega, b3, by rw [a1, a2, a3]; exact b4, ?_⟩
        have := ih.1
        rw [show ((i0 + 1 : Nat) : Int) = (i0 : Int) + 1 by omega] at this
        exact this
      · have q := ih.2 i (by omega) (by omega)
        rcases q with ⟨q1, q2⟩ | ⟨q1, q2⟩
        · exact Or.inl ⟨by omega, q2⟩
        · exact Or.inr ⟨by omega, q2⟩
theorem TL.len {tx : Int → Int} {len : Int} : ∀ {l : List (Int × Int × Int)} {s : Int}, TL tx len s l → s ≤ len ∧ (l.length : Int) ≤ len - s + 1
  | [], _, h => h.elim
  | o :: r, s, h => by
    obtain ⟨h1, h2, h3⟩ := h
    rcases h3 with ⟨b1, b2, rfl⟩ | ⟨b1, e, b2, b3, b4, b5⟩
    · simp only [List.length_cons, List.length_nil]
      omega
    · have := b5.len
      simp only [List.length_cons]
      omega
theorem TG.mk {tx kd st vl : Int → Int} {len : Int} (hl : len ≤ 800) (h0 : 0 ≤ len) (hT : TKA kd st vl (gm_to tx len 801 0)) : ∃ N, (0 ≤ N ∧ N ≤ len) ∧ TG tx kd st vl len N ∧ TPs tx st 0 0 := by
  have h := gm_to_TL (tx := tx) hl 801 0 (by omega) h0 (by omega)
  have g := TL.tg (kd := kd) (st := st) (vl := vl) (i0 := 0) h (Int.le_refl _) (fun k o ho => by rw [Nat.zero_add]; exact hT.1 k o ho)
  have n := h.len
  have n1 : 1 ≤ (gm_to tx len 801 0).length := by
    cases hq : gm_to tx len 801 0 with
    | nil => rw [hq] at h; exact h.elim
    | cons _ _ => simp
  refine ⟨((gm_to tx len 801 0).length : Int) - 1, by omega, fun i i0 i1 => ?_, g.1⟩
  have q := g.2 i (by simpa using i0) (by simpa using i1)
  simpa using q
/-! the model's bytes -/
def gm_T (bf : Int → Int) (tl k : Int) : Int := if k < tl then bf k else -1
/-- where the model stands: before token i -/
def TP (tx st : Int → Int) (N px i : Int) : Prop := (0 ≤ i ∧ i ≤ N) ∧ 0 ≤ px ∧ TPs tx st px i
/-- the bytes of both are the same -/
def BX (bf tx : Int → Int) (len : Int) : Prop := ∀ k, 0 ≤ k → k < len → bf k = tx k % 256 ∧ -128 ≤ tx k ∧ tx k ≤ 127
theorem TG.st {tx kd st vl : Int → Int} {len N i : Int} (h : TG tx kd st vl len N) (h0 : 0 ≤ len) (i0 : 0 ≤ i) (i1 : i ≤ N) : 0 ≤ st i ∧ st i ≤ len := by
  rcases h i i0 i1 with ⟨a, b, c⟩ | ⟨a, b, c, -⟩ <;> omega
theorem TP.at {tx kd st vl : Int → Int} {len N px i : Int} (h : TP tx st N px i) (g : TG tx kd st vl len N) (h0 : 0 ≤ len) : TP tx st N (st i) i := ⟨h.1, (g.st h0 h.1.1 h.1.2).1, Int.le_refl _, fun j j0 j1 => by omega⟩
/-- which byte the token begins with, told by its kind -/
theorem TG.ch {tx kd st vl bf : Int → Int} {len N i : Int} (g : TG tx kd st vl len N) (hb : BX bf tx len) (i0 : 0 ≤ i) (i1 : i ≤ N) : gm_T bf len (st i) ≠ 32 ∧ -1 ≤ gm_T bf len (st i) ∧ gm_T bf len (st i) ≤ 255 ∧ (kd i = 2 ↔ 48 ≤ gm_T bf len (st i) ∧ gm_T bf len (st i) ≤ 57) ∧ (kd i = 0 ↔ gm_T bf len (st i) = -1) ∧ (∀ c, (c = 40 ∨ c = 41 ∨ c = 42 ∨ c = 43 ∨ c = 45 ∨ c = 47 ∨ c = 59) → (kd i = c ↔ gm_T bf len (st i) = c)) := by
  unfold gm_T
  rcases g i i0 i1 with ⟨a, b, c⟩ | ⟨a, b, c, e, d1, d2, d3, d4⟩
  · rw [b, if_neg (by omega)]
    refine ⟨by omega, by omega, by omega, by omega, by omega, fun c hc => by omega⟩
  · rw [if_pos c]
    obtain ⟨q1, q2, q3⟩ := hb _ b c
    rw [q1]
    rcases d3 with ⟨w1, w2, w3, w4⟩ | ⟨w1, w2, w3⟩ | ⟨w1, w2, w3, w4, w5⟩
    · unfold gm_dg at w1
      refine ⟨by omega, by omega, by omega, by omega, by omega, fun c hc => by omega⟩
    · have r := gm_kw_r tx (st i) e
      refine ⟨by omega, by omega, by omega, by omega, by omega, fun c hc => by omega⟩
    · unfold gm_dg at w1
      have r := gm_ks_r (tx (st i))
      refine ⟨by omega, by omega, by omega, by omega, by omega, fun c hc => ?_⟩
      rw [w4]
      unfold gm_ks
      split <;> omega
theorem TP.sp {tx st bf : Int → Int} {len N px i q : Int} (h : TP tx st N px i) (hb : BX bf tx len) (hs : st i ≤ len) (q0 : px ≤ q) (q1 : q < st i) : gm_T bf len q = 32 := by
  unfold gm_T
  obtain ⟨-, h0, h1, h2⟩ := h
  rw [if_pos (by omega), (hb q (by omega) (by omega)).1, h2 q q0 q1]
  rfl
theorem TP.mv {tx st : Int → Int} {N px i q : Int} (h : TP tx st N px i) (q0 : px ≤ q) (q1 : q ≤ st i) : TP tx st N q i := ⟨h.1, by have := h.2.1; omega, q1, fun j j0 j1 => h.2.2.2 j (by omega) j1⟩
/-! words -/
def gm_wc (i : Nat) : Int := if i = 1 then 3 else if i = 2 then 4 else if i = 3 then 5 else if i = 4 then 6 else 4 - (i : Int)
theorem am_wds1 : ∀ i, i < 9 → am_len (i + 1 + 19) = am_len (i + 1) ∧ 1 ≤ am_len (i + 1) := by decide +kernel
theorem am_wds2 : ∀ i, i < 9 → ∀ j, j < am_len (i + 1) → am_byt (i + 1 + 19) j = am_byt (i + 1) j ∧ 97 ≤ am_byt (i + 1) j ∧ am_byt (i + 1) j ≤ 122 := by decide +kernel
theorem am_wds3 : ∀ i, i < 9 → ∀ j, j < 9 → i = j ∨ am_len (i + 1) ≠ am_len (j + 1) ∨ ¬ ∀ k, k < am_len (i + 1) → am_byt (i + 1) k = am_byt (j + 1) k := by decide +kernel
theorem am_wds : (∀ i, i < 10 → 1 ≤ i → am_len (i + 19) = am_len i ∧ 1 ≤ am_len i ∧ (∀ j, j < am_len i → am_byt (i + 19) j = am_byt i j ∧ 97 ≤ am_byt i j ∧ am_byt i j ≤ 122)) ∧ ∀ i, i < 10 → 1 ≤ i → ∀ j, j < 10 → 1 ≤ j → i ≠ j → am_len i ≠ am_len j ∨ ¬ ∀ k, k < am_len i → am_byt i k = am_byt j k := by
  refine ⟨fun i h0 h1 => ?_, fun i h0 h1 j j0 j1 c => ?_⟩
  · obtain ⟨k, rfl⟩ : ∃ k, i = k + 1 := ⟨i - 1, by omega⟩
    exact ⟨(am_wds1 k (by omega)).1, (am_wds1 k (by omega)).2, am_wds2 k (by omega)⟩
  · obtain ⟨k, rfl⟩ : ∃ k, i = k + 1 := ⟨i - 1, by omega⟩
    obtain ⟨m, rfl⟩ : ∃ k, j = k + 1 := ⟨j - 1, by omega⟩
    rcases am_wds3 k (by omega) m (by omega) with q | q
    · exact absurd (by rw [q]) c
    · exact q
theorem gm_wd_ne {i j : Nat} {tx : Int → Int} {s e : Int} (hi : i < 10) (i1 : 1 ≤ i) (hj : j < 10) (j1 : 1 ≤ j) (h : gm_wd i tx s e) (h' : gm_wd j tx s e) : i = j := by
  by_cases c : i = j
  · exact c
  · exfalso
    rcases am_wds.2 i hi i1 j hj j1 c with q | q
    · have := h.1
      have := h'.1
      omega
    · refine q fun k k1 => ?_
      have e1 := h.2 k k1
      have e2 := h'.2 k (by have := h.1; have := h'.1; omega)
      omega
theorem gm_kw_i {i : Nat} {tx : Int → Int} {s e : Int} (hi : i < 10) (i1 : 1 ≤ i) (h : gm_wd i tx s e) : gm_kw tx s e = gm_wc i := by
  have N : ∀ j, j < 10 → 1 ≤ j → j ≠ i → ¬ gm_wd j tx s e := fun j j0 j1 c q => c (gm_wd_ne j0 j1 hi i1 q h)
  unfold gm_kw
  rcases (show i = 1 ∨ i = 2 ∨ i = 3 ∨ i = 4 ∨ i = 5 ∨ i = 6 ∨ i = 7 ∨ i = 8 ∨ i = 9 by omega) with rfl | rfl | rfl | rfl | rfl | rfl | rfl | rfl | rfl
  · rw [if_pos h]; rfl
  · rw [if_neg (N 1 (by decide) (by decide) (by decide)), if_pos h]; rfl
  · rw [if_neg (N 1 (by decide) (by decide) (by decide)), if_neg (N 2 (by decide) (by decide) (by decide)), if_pos h]; rfl
  · rw [if_neg (N 1 (by decide) (by decide) (by decide)), if_neg (N 2 (by decide) (by decide) (by decide)), if_neg (N 3 (by decide) (by decide) (by decide)), if_pos h]; rfl
  · rw [if_neg (N 1 (by decide) (by decide) (by decide)), if_neg (N 2 (by decide) (by decide) (by decide)), if_neg (N 3 (by decide) (by decide) (by decide)), if_neg (N 4 (by decide) (by decide) (by decide)), if_pos h]; rfl
  · rw [if_neg (N 1 (by decide) (by decide) (by decide)), if_neg (N 2 (by decide) (by decide) (by decide)), if_neg (N 3 (by decide) (by decide) (by decide)), if_neg (N 4 (by decide) (by decide) (by decide)), if_neg (N 5 (by decide) (by decide) (by decide)), if_pos h]; rfl
  · rw [if_neg (N 1 (by decide) (by decide) (by decide)), if_neg (N 2 (by decide) (by decide) (by decide)), if_neg (N 3 (by decide) (by decide) (by decide)), if_neg (N 4 (by decide) (by decide) (by decide)), if_neg (N 5 (by decide) (by decide) (by decide)), if_neg (N 6 (by decide) (by decide) (by decide)), if_pos h]; rfl
  · rw [if_neg (N 1 (by decide) (by decide) (by decide)), if_neg (N 2 (by decide) (by decide) (by decide)), if_neg (N 3 (by decide) (by decide) (by decide)), if_neg (N 4 (by decide) (by decide) (by decide)), if_neg (N 5 (by decide) (by decide) (by decide)), if_neg (N 6 (by decide) (by decide) (by decide)), if_neg (N 7 (by decide) (by decide) (by decide)), if_pos h]; rfl
  · rw [if_neg (N 1 (by decide) (by decide) (by decide)), if_neg (N 2 (by decide) (by decide) (by decide)), if_neg (N 3 (by decide) (by decide) (by decide)), if_neg (N 4 (by decide) (by decide) (by decide)), if_neg (N 5 (by decide) (by decide) (by decide)), if_neg (N 6 (by decide) (by decide) (by decide)), if_neg (N 7 (by decide) (by decide) (by decide)), if_neg (N 8 (by decide) (by decide) (by decide)), if_pos h]; rfl
theorem gm_wc_inj : ∀ i, i < 10 → 1 ≤ i → ∀ j, j < 10 → 1 ≤ j → gm_wc i = gm_wc j → i = j := by decide +kernel
theorem gm_kw_or (tx : Int → Int) (s e : Int) : gm_kw tx s e = 1 ∨ ∃ j, j < 10 ∧ 1 ≤ j ∧ gm_wd j tx s e := by
  by_cases c1 : gm_wd 1 tx s e
  · exact Or.inr ⟨1, by decide, by decide, c1⟩
  by_cases c2 : gm_wd 2 tx s e
  · exact Or.inr ⟨2, by decide, by decide, c2⟩
  by_cases c3 : gm_wd 3 tx s e
  · exact Or.inr ⟨3, by decide, by decide, c3⟩
  by_cases c4 : gm_wd 4 tx s e
  · exact Or.inr ⟨4, by decide, by decide, c4⟩
  by_cases c5 : gm_wd 5 tx s e
  · exact Or.inr ⟨5, by decide, by decide, c5⟩
  by_cases c6 : gm_wd 6 tx s e
  · exact Or.inr ⟨6, by decide, by decide, c6⟩
  by_cases c7 : gm_wd 7 tx s e
  · exact Or.inr ⟨7, by decide, by decide, c7⟩
  by_cases c8 : gm_wd 8 tx s e
  · exact Or.inr ⟨8, by decide, by decide, c8⟩
  by_cases c9 : gm_wd 9 tx s e
  · exact Or.inr ⟨9, by decide, by decide, c9⟩
  left
  unfold gm_kw
  rw [if_neg c1, if_neg c2, if_neg c3, if_neg c4, if_neg c5, if_neg c6, if_neg c7, if_neg c8, if_neg c9]
theorem gm_kw_w {i : Nat} {tx : Int → Int} {s e : Int} (hi : i < 10) (i1 : 1 ≤ i) (h : gm_kw tx s e = gm_wc i) : gm_wd i tx s e := by
  rcases gm_kw_or tx s e with q | ⟨j, j0, j1, q⟩
  · rw [q] at h
    unfold gm_wc at h
    (repeat' split at h) <;> omega
  · have := gm_kw_i j0 j1 q
    have e := gm_wc_inj i hi i1 j j0 j1 (h.symm.trans this)
    rw [e]
    exact q
/-- a word is there just when its letters are, and no letter after them -/
theorem TG.wd {tx kd st vl bf : Int → Int} {len N i : Int} (g : TG tx kd st vl len N) (hb : BX bf tx len) (i0 : 0 ≤ i) (i1 : i ≤ N) {w : Nat} (hw : w < 10) (w1 : 1 ≤ w) :
    (kd i = gm_wc w → (∀ j : Nat, j < am_len (w + 19) → gm_T bf len (st i + j) = am_byt (w + 19) j) ∧ ¬ (97 ≤ gm_T bf len (st i + am_len (w + 19)) ∧ gm_T bf len (st i + am_len (w + 19)) ≤ 122) ∧ st i + am_len (w + 19) ≤ len ∧ i < N ∧ TPs tx st (st i + am_len (w + 19)) (i + 1)) ∧
    ((∀ j : Nat, j < am_len (w + 19) → gm_T bf len (st i + j) = am_byt (w + 19) j) → ¬ (97 ≤ gm_T bf len (st i + am_len (w + 19)) ∧ gm_T bf len (st i + am_len (w + 19)) ≤ 122) → kd i = gm_wc w) := by
  obtain ⟨l1, l2, l3⟩ := am_wds.1 w hw w1
  rw [l1]
  have hwc : gm_wc w ≤ 6 ∧ gm_wc w ≠ 0 ∧ gm_wc w ≠ 1 ∧ gm_wc w ≠ 2 := by
    unfold gm_wc
    (repeat' split) <;> omega
  refine ⟨fun hk => ?_, fun hm hn => ?_⟩
  · rcases g i i0 i1 with ⟨a, b, c⟩ | ⟨a, b, c, e, d1, d2, d3, d4⟩
    · omega
    · rcases d3 with ⟨w1', w2, w3, w4⟩ | ⟨w1', w2, w3⟩ | ⟨w1', w2, w3, w4, w5⟩
      · omega
      · have q := gm_kw_w hw w1 (w2.symm.trans hk)
        have qe : st i + am_len w = e := by have := q.1; omega
        rw [qe]
        refine ⟨fun j hj => ?_, ?_, d2, a, d4⟩
        · have h2 := hb (st i + j) (by omega) (by have := q.1; omega)
          have h3 := l3 j hj
          unfold gm_T
          rw [if_pos (by have := q.1; omega), h2.1, q.2 j hj, h3.1]
          omega
        · obtain ⟨-, -, r⟩ := w3
          unfold gm_T
          by_cases c2 : e < len
          · rw [if_pos c2, (hb e (by omega) c2).1]
            have := (hb e (by omega) c2).2
            omega
          · rw [if_neg c2]; omega
      · have := gm_ks_r (tx (st i))
        rw [w4] at hk
        unfold gm_ks at hk
        split at hk <;> omega
  · have h0 := hm 0 (by omega)
    have h1 := l3 0 (by omega)
    have hlt : ∀ j : Nat, j < am_len w → st i + j < len ∧ tx (st i + j) = am_byt w j := fun j hj => by
      have h2 := hm j hj
      have h3 := l3 j hj
      have s0 : 0 ≤ st i := by rcases g i i0 i1 with ⟨a, b, c⟩ | ⟨a, b, c, -⟩
                               · rw [c] at h2
                                 unfold gm_T at h2
                                 rw [if_neg (by omega)] at h2
                                 omega
                               · exact b
      unfold gm_T at h2
      by_cases c : st i + j < len
      · rw [if_pos c] at h2
        have := hb (st i + j) (by omega) c
        exact ⟨c, by omega⟩
      · rw [if_neg c] at h2; omega
    have t0 := hlt 0 (by omega)
    rw [show st i + ((0 : Nat) : Int) = st i by omega] at t0
    rcases g i i0 i1 with ⟨a, b, c⟩ | ⟨a, b, c, e, d1, d2, d3, d4⟩
    · omega
    · rcases d3 with ⟨w1', w2, w3, w4⟩ | ⟨w1', w2, w3⟩ | ⟨w1', w2, w3, w4, w5⟩
      · unfold gm_dg at w1'; omega
      · have le : st i + am_len w ≤ len := by
          have := (hlt (am_len w - 1) (by omega)).1
          omega
        have er : gm_er tx len 97 122 (st i) (st i + am_len w) := by
          refine ⟨⟨by omega, le⟩, fun k k0 k1 => ?_, ?_⟩
          · have q := hlt (k - st i).toNat (by omega)
            have q3 := l3 (k - st i).toNat (by omega)
            rw [show st i + ((k - st i).toNat : Int) = k by omega] at q
            omega
          · by_cases c2 : st i + am_len w < len
            · refine Or.inr fun z => hn ?_
              unfold gm_T
              rw [if_pos c2, (hb _ (by omega) c2).1]
              omega
            · exact Or.inl (by omega)
        have ee := gm_er_one w3 er
        rw [w2]
        exact gm_kw_i hw w1 ⟨by omega, fun k hk => (hlt k hk).2⟩
      · omega
/-! numbers -/
def gm_vm (bf : Int → Int) (s : Int) : Nat → Int
  | 0 => 0
  | k + 1 => if 1000000 < 10 * gm_vm bf s k + bf (s + k) - 48 then 1000000 else 10 * gm_vm bf s k + bf (s + k) - 48
theorem gm_vm_va {bf tx : Int → Int} {s : Int} : ∀ {n : Nat}, (∀ k : Nat, k < n → bf (s + k) = tx (s + k) ∧ 48 ≤ tx (s + k) ∧ tx (s + k) ≤ 57) → (0 ≤ gm_vm bf s n ∧ gm_vm bf s n ≤ 1000000) ∧ ((gm_vm bf s n < 10000 ∧ gm_va tx s n = gm_vm bf s n) ∨ (10000 ≤ gm_vm bf s n ∧ gm_va tx s n = 10000))
  | 0, h => by simp [gm_vm, gm_va]
  | n + 1, h => by
    have ih := gm_vm_va (n := n) fun k hk => h k (by omega)
    have q := h n (by omega)
    simp only [gm_vm, gm_va]
    rw [q.1]
    (repeat' split) <;> omega
