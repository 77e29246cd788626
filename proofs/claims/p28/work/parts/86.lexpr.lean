/-! The text that the law writes: its expression read. -/
/-- these tokens stand there -/
def ATK (kd vl : Int → Int) (he : Int) (l : List (Int × Int)) : Prop := ∀ (k : Nat) (o : Int × Int), l[k]? = some o → kd (he + k) = o.1 ∧ vl (he + k) = o.2
theorem ATK.app {kd vl : Int → Int} {s : Int} {X Y : List (Int × Int)} (h : ATK kd vl s (X ++ Y)) : ATK kd vl s X ∧ ATK kd vl (s + X.length) Y := by
  refine ⟨fun k c e => ?_, fun k c e => ?_⟩
  · have := (List.getElem?_eq_some_iff.mp e).1
    exact h k c (by rw [List.getElem?_append_left this]; exact e)
  · have := h (X.length + k) c (by rw [List.getElem?_append_right (Nat.le_add_right _ _), Nat.add_sub_cancel_left]; exact e)
    rwa [show s + ((X.length + k : Nat) : Int) = s + X.length + k by omega] at this
theorem ATK.hd {kd vl : Int → Int} {s a b : Int} {Y : List (Int × Int)} (h : ATK kd vl s ((a, b) :: Y)) : (kd s = a ∧ vl s = b) ∧ ATK kd vl (s + 1) Y := by
  have e := h 0 _ rfl
  rw [show s + ((0 : Nat) : Int) = s by omega] at e
  refine ⟨e, fun k c x => ?_⟩
  have := h (k + 1) c x
  rwa [show s + ((k + 1 : Nat) : Int) = s + 1 + k by omega] at this
def gx_sl (kd st vl : Int → Int) : Nat → Option (GL → Int → GRL)
  | 0 => none
  | m + 1 => some (rU kd st vl m)
theorem rU_sl {kd st vl : Int → Int} {L : GL} {he : Int} : ∀ m : Nat, rU kd st vl m L he = rB (rM kd st vl (gx_sl kd st vl m) L he) fun r => rJ kd (rM kd st vl (gx_sl kd st vl m)) 43 45 2 3 800 r.1 r.2
  | 0 => rfl
  | _ + 1 => rfl
theorem gx_je {kd : Int → Int} {f : GL → Int → GRL} {a b oa ob : Int} {L : GL} {he : Int} (ha : kd he ≠ a) (hb : kd he ≠ b) : ∀ n : Nat, rJ kd f a b oa ob n L he = .inr (L, he)
  | 0 => rfl
  | n + 1 => by rw [rJ, if_neg ha, if_neg hb]
/-- a factor, a product, a sum is read from these tokens to this code -/
def PF (m : Nat) (l : List (Int × Int)) (C : GL) : Prop := ∀ (kd st vl : Int → Int) (L : GL) (he : Int), ATK kd vl he l → rA kd st vl (gx_sl kd st vl m) L he = .inr (L ++ C, he + l.length)
def PR (m : Nat) (l : List (Int × Int)) (C : GL) (j : Nat) : Prop := ∀ (kd st vl : Int → Int) (L : GL) (he : Int), ATK kd vl he l → rM kd st vl (gx_sl kd st vl m) L he = rJ kd (rA kd st vl (gx_sl kd st vl m)) 42 47 4 5 (800 - j) (L ++ C) (he + l.length)
def PS (m : Nat) (l : List (Int × Int)) (C : GL) (j : Nat) : Prop := ∀ (kd st vl : Int → Int) (L : GL) (he : Int), ATK kd vl he l → kd (he + l.length) ≠ 42 → kd (he + l.length) ≠ 47 → rU kd st vl m L he = rJ kd (rM kd st vl (gx_sl kd st vl m)) 43 45 2 3 (800 - j) (L ++ C) (he + l.length)
theorem PF.pr {m : Nat} {l : List (Int × Int)} {C : GL} (h : PF m l C) : PR m l C 0 := fun kd st vl L he a => by
  unfold rM
  rw [rB_r (h kd st vl L he a)]
theorem PR.ps {m j : Nat} {l : List (Int × Int)} {C : GL} (h : PR m l C j) : PS m l C 0 := fun kd st vl L he a n1 n2 => by
  rw [rU_sl, h kd st vl L he a, gx_je n1 n2]
  rfl
theorem PR.op {m j : Nat} {l1 l2 : List (Int × Int)} {C1 C2 : GL} {t k : Int} (hk : (t = 42 ∧ k = 4) ∨ (t = 47 ∧ k = 5)) (h1 : PR m l1 C1 j) (hj : j < 800) (h2 : PF m l2 C2) : PR m (l1 ++ (t, 0) :: l2) (C1 ++ C2 ++ [(k, 0)]) (j + 1) := fun kd st vl L he a => by
  obtain ⟨a1, a2⟩ := a.app
  obtain ⟨⟨e, -⟩, a3⟩ := a2.hd
  rw [h1 kd st vl L he a1, show 800 - j = (800 - (j + 1)) + 1 by omega, rJ, List.length_append, List.length_cons]
  have q := h2 kd st vl (L ++ C1) (he + l1.length + 1) a3
  have e2 : he + (l1.length : Int) + 1 + l2.length = he + ((l1.length + (l2.length + 1) : Nat) : Int) := by omega
  rcases hk with ⟨rfl, rfl⟩ | ⟨rfl, rfl⟩
  · rw [if_pos e, rB_r q, e2]
    simp only [List.append_assoc]
  · rw [if_neg (by omega), if_pos e, rB_r q, e2]
    simp only [List.append_assoc]
theorem PS.op {m j j2 : Nat} {l1 l2 : List (Int × Int)} {C1 C2 : GL} {t k : Int} (hk : (t = 43 ∧ k = 2) ∨ (t = 45 ∧ k = 3)) (h1 : PS m l1 C1 j) (hj : j < 800) (h2 : PR m l2 C2 j2) : PS m (l1 ++ (t, 0) :: l2) (C1 ++ C2 ++ [(k, 0)]) (j + 1) := fun kd st vl L he a n1 n2 => by
  obtain ⟨a1, a2⟩ := a.app
  obtain ⟨⟨e, -⟩, a3⟩ := a2.hd
  have e2 : he + (l1.length : Int) + 1 + l2.length = he + ((l1.length + (l2.length + 1) : Nat) : Int) := by omega
  rw [List.length_append, List.length_cons] at n1 n2 ⊢
  rw [h1 kd st vl L he a1 (by omega) (by omega), show 800 - j = (800 - (j + 1)) + 1 by omega, rJ]
  have q := h2 kd st vl (L ++ C1) (he + l1.length + 1) a3
  rw [gx_je (by rw [e2]; exact n1) (by rw [e2]; exact n2)] at q
  rcases hk with ⟨rfl, rfl⟩ | ⟨rfl, rfl⟩
  · rw [if_pos e, rB_r q, e2]
    simp only [List.append_assoc]
  · rw [if_neg (by omega), if_pos e, rB_r q, e2]
    simp only [List.append_assoc]
theorem PF.wrap {m j : Nat} {l : List (Int × Int)} {C : GL} (h : PS m l C j) : PF (m + 1) ((40, 0) :: (l ++ [(41, 0)])) C := fun kd st vl L he a => by
  obtain ⟨⟨e, -⟩, a1⟩ := a.hd
  obtain ⟨a2, a3⟩ := a1.app
  obtain ⟨⟨e3, -⟩, -⟩ := a3.hd
  have q := h kd st vl L (he + 1) a2 (by omega) (by omega)
  rw [gx_je (by omega) (by omega)] at q
  show rA kd st vl (some (rU kd st vl m)) L he = _
  unfold rA
  rw [if_pos e]
  show rB (rU kd st vl m L (he + 1)) _ = _
  rw [rB_r q]
  show rB (rT kd st 41 (he + 1 + l.length)) _ = _
  rw [rB_r (show rT kd st 41 (he + 1 + l.length) = .inr () from if_pos e3), List.length_cons, List.length_append, List.length_singleton]
  congr 2
  show he + 1 + (l.length : Int) + 1 = _
  omega
theorem PF.num {m : Nat} {v : Int} (v1 : v ≤ 9999) : PF m [(2, v)] [(0, v)] := fun kd st vl L he a => by
  obtain ⟨⟨e, e2⟩, -⟩ := a.hd
  unfold rA
  rw [if_neg (by omega), if_neg (by omega), if_pos e, if_pos (by omega), e2]
  rfl
theorem PF.var {m : Nat} {v : Int} (v0 : 0 ≤ v) : PF m [(-1 - v, 0)] [(1, v)] := fun kd st vl L he a => by
  obtain ⟨⟨e, e2⟩, -⟩ := a.hd
  unfold rA
  rw [if_neg (by omega), if_pos (by omega), e, show -1 - (-1 - v) = v by omega]
  rfl
/-- an expression's tokens, as its text stands in a sum, a product, a factor -/
def PX (d : Nat) (L : GL) (X : Int → List Int) : Prop := ∃ Tk : Int → List (Int × Int), (∀ l, SEG (X l) (Tk l)) ∧ ∀ m, d ≤ m → PF m (Tk 3) L ∧ (∃ j, j ≤ d ∧ PR m (Tk 2) L j) ∧ ∀ l, l ≤ 1 → ∃ j, j ≤ d ∧ PS m (Tk l) L j
theorem PX.leaf {d : Nat} {L : GL} {Z : List Int} {l : List (Int × Int)} (hs : SEG Z l) (hp : ∀ m, PF m l L) : PX d L (fun _ => Z) := ⟨fun _ => l, fun _ => hs, fun m _ => ⟨hp m, ⟨0, Nat.zero_le _, (hp m).pr⟩, fun _ _ => ⟨0, Nat.zero_le _, (hp m).pr.ps⟩⟩⟩
theorem gx_wrap {Z : List Int} {l : List (Int × Int)} (h : SEG Z l) : SEG (40 :: (Z ++ [41])) ((40, 0) :: (l ++ [(41, 0)])) := by
  have a : SEP [41] [(41, 0)] := SEP.y (by unfold gx_al; omega) (by decide)
  have b : SEP [40] [(40, 0)] := SEP.y (by unfold gx_al; omega) (by decide)
  exact (b.app (h.sp a (by unfold gx_al; omega))).seg
theorem gx_opt {k : Int} (hk : 2 ≤ k ∧ k ≤ 5) : ∃ t c Y, gm_opt k = c :: Y ∧ ¬ gx_al c ∧ SEP (c :: Y) [(t, 0)] ∧ ((t = 43 ∧ k = 2) ∨ (t = 45 ∧ k = 3) ∨ (t = 42 ∧ k = 4) ∨ (t = 47 ∧ k = 5)) := by
  have y : ∀ z : Int, ¬ gx_al z → z ≠ 32 → gm_ks z = z → SEP [z] [(z, 0)] := fun z a b c => by have := SEP.y a b; rwa [c] at this
  rcases (show k = 2 ∨ k = 3 ∨ k = 4 ∨ k = 5 by omega) with rfl | rfl | rfl | rfl
  · exact ⟨43, 43, [], rfl, by unfold gx_al; omega, y 43 (by unfold gx_al; omega) (by decide) (by decide), Or.inl ⟨rfl, rfl⟩⟩
  · exact ⟨45, 32, [45, 32], rfl, by unfold gx_al; omega, SEP.b.app ((y 45 (by unfold gx_al; omega) (by decide) (by decide)).app SEP.b), Or.inr (Or.inl ⟨rfl, rfl⟩)⟩
  · exact ⟨42, 42, [32], rfl, by unfold gx_al; omega, (y 42 (by unfold gx_al; omega) (by decide) (by decide)).app SEP.b, Or.inr (Or.inr (Or.inl ⟨rfl, rfl⟩))⟩
  · exact ⟨47, 47, [], rfl, by unfold gx_al; omega, y 47 (by unfold gx_al; omega) (by decide) (by decide), Or.inr (Or.inr (Or.inr ⟨rfl, rfl⟩))⟩
theorem PX.op {d : Nat} {L1 L2 : GL} {X1 X2 : Int → List Int} (hd : d < 700) {k : Int} (hk : 2 ≤ k ∧ k ≤ 5) (h1 : PX d L1 X1) (h2 : PX d L2 X2) : PX (d + 1) (L1 ++ L2 ++ [(k, 0)]) (gm_xop k X1 X2) := by
  obtain ⟨T1, s1, p1⟩ := h1
  obtain ⟨T2, s2, p2⟩ := h2
  obtain ⟨t, c, Y, eo, na, so, ht⟩ := gx_opt hk
  have core : SEG (X1 (gm_own k) ++ gm_opt k ++ X2 (gm_own k + 1)) (T1 (gm_own k) ++ (t, 0) :: T2 (gm_own k + 1)) := by
    rw [eo]
    have := ((s1 (gm_own k)).sp so na).sg (s2 (gm_own k + 1))
    rwa [List.append_assoc (T1 (gm_own k))] at this
  refine ⟨fun l => if gm_own k < l then (40, 0) :: ((T1 (gm_own k) ++ (t, 0) :: T2 (gm_own k + 1)) ++ [(41, 0)]) else T1 (gm_own k) ++ (t, 0) :: T2 (gm_own k + 1), fun l => ?_, ?_⟩
  · show SEG (gm_xop k X1 X2 l) (if gm_own k < l then _ else _)
    unfold gm_xop gm_wrp
    split
    · exact gx_wrap core
    · exact core
  · by_cases c4 : k < 4
    · have ow : gm_own k = 1 := if_pos c4
      rw [ow]
      have cs : ∀ m, d ≤ m → ∃ j, j ≤ d + 1 ∧ PS m (T1 1 ++ (t, 0) :: T2 (1 + 1)) (L1 ++ L2 ++ [(k, 0)]) j := fun m hm => by
        obtain ⟨j, j1, a⟩ := (p1 m hm).2.2 1 (by decide)
        obtain ⟨j2, -, b⟩ := (p2 m hm).2.1
        exact ⟨j + 1, by omega, PS.op (by omega) a (by omega) b⟩
      refine fun m hm => ?_
      obtain ⟨m, rfl⟩ : ∃ m', m = m' + 1 := ⟨m - 1, by omega⟩
      obtain ⟨j, -, a⟩ := cs m (by omega)
      have f := PF.wrap a
      refine ⟨?_, ⟨0, by omega, ?_⟩, fun l hl => ?_⟩
      · exact f
      · exact f.pr
      · have e : ¬ (1 : Int) < l := by omega
        simp only [if_neg e]
        exact cs (m + 1) (by omega)
    · have ow : gm_own k = 2 := if_neg c4
      rw [ow]
      have cs : ∀ m, d ≤ m → ∃ j, j ≤ d + 1 ∧ PR m (T1 2 ++ (t, 0) :: T2 (2 + 1)) (L1 ++ L2 ++ [(k, 0)]) j := fun m hm => by
        obtain ⟨j, j1, a⟩ := (p1 m hm).2.1
        have b := (p2 m hm).1
        exact ⟨j + 1, by omega, PR.op (by omega) a (by omega) b⟩
      refine fun m hm => ?_
      obtain ⟨m, rfl⟩ : ∃ m', m = m' + 1 := ⟨m - 1, by omega⟩
      obtain ⟨j, -, a⟩ := cs m (by omega)
      have f := PF.wrap a.ps
      refine ⟨f, cs (m + 1) (by omega), fun l hl => ?_⟩
      have e : ¬ (2 : Int) < l := by omega
      simp only [if_neg e]
      obtain ⟨j, -, a⟩ := cs (m + 1) (by omega)
      exact ⟨0, by omega, a.ps⟩
theorem gm_vn_w {n : Int} (n0 : 0 ≤ n) (n1 : n ≤ 4) : SEG (gm_vn n) [(-1 - n, 0)] := by
  rcases (show n = 0 ∨ n = 1 ∨ n = 2 ∨ n = 3 ∨ n = 4 by omega) with rfl | rfl | rfl | rfl | rfl
  · exact (SEG.wd (X := [97, 114, 101, 97]) (k := -1) (by decide +kernel) (by decide) (by decide) : SEG [97, 114, 101, 97] [(-1, 0)])
  · exact (SEG.wd (X := [115, 116, 111, 110, 101, 115]) (k := -2) (by decide +kernel) (by decide) (by decide) : SEG [115, 116, 111, 110, 101, 115] [(-2, 0)])
  · exact (SEG.wd (X := [99, 111, 114, 110, 101, 114, 115]) (k := -3) (by decide +kernel) (by decide) (by decide) : SEG [99, 111, 114, 110, 101, 114, 115] [(-3, 0)])
  · exact (SEG.wd (X := [100, 101, 110, 116, 115]) (k := -4) (by decide +kernel) (by decide) (by decide) : SEG [100, 101, 110, 116, 115] [(-4, 0)])
  · exact (SEG.wd (X := [105, 110, 110, 101, 114]) (k := -5) (by decide +kernel) (by decide) (by decide) : SEG [105, 110, 110, 101, 114] [(-5, 0)])
theorem NLF.px {h : AH} {B : Nat → Prop} {q : Nat} {L : GL} {X : Int → List Int} {d : Nat} (x : NLF h B q L X) : PX d L X := by
  obtain ⟨-, k, nb, -, ⟨-, n0, n1, rfl, rfl⟩ | ⟨-, n0, n1, rfl, rfl⟩⟩ := x
  · exact PX.leaf (SEG.dl n0 n1) (fun m => PF.num n1)
  · exact PX.leaf (gm_vn_w n0 n1) (fun m => PF.var n0)
theorem NT.px {h : AH} {B : Nat → Prop} : ∀ {d q : Nat} {L : GL} {X : Int → List Int}, d < 700 → NT h B d q L X → PX d L X
  | 0, _, _, _, _, x => NLF.px x
  | d + 1, q, L, X, hd, x => by
    rcases x with x | ⟨-, k, nb, l, r, L1, L2, X1, X2, hk, -, n1, n2, rfl, rfl⟩
    · exact NLF.px x
    · exact PX.op (by omega) hk (NT.px (by omega) n1) (NT.px (by omega) n2)
/-- the score is read -/
theorem PX.scr {d : Nat} {L : GL} {X : Int → List Int} (hd : d ≤ 4) (h : PX d L X) : ∃ l, SEG (X 0) l ∧ ∀ (kd st vl : Int → Int) (he : Int), ATK kd vl (he + 1) (l ++ [(59, 0)]) → rW kd st vl 0 he = .inr (L, he + 1 + l.length + 1) := by
  obtain ⟨Tk, s, p⟩ := h
  refine ⟨Tk 0, s 0, fun kd st vl he a => ?_⟩
  obtain ⟨a1, a2⟩ := a.app
  obtain ⟨⟨e, -⟩, -⟩ := a2.hd
  obtain ⟨j, -, q⟩ := (p 4 hd).2.2 0 (by decide)
  have q := q kd st vl [] (he + 1) a1 (by omega) (by omega)
  rw [gx_je (by omega) (by omega), List.nil_append] at q
  unfold rW
  rw [if_pos rfl, rB_r q]
  show rB (rT kd st 59 (he + 1 + (Tk 0).length)) _ = _
  rw [rB_r (show rT kd st 59 (he + 1 + (Tk 0).length) = .inr () from if_pos e)]
