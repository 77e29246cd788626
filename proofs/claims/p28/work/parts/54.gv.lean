/-! Polygons whose sides meet in corners alone stay such. -/
/-- the sides of a polygon meet in corners alone -/
def GVp (D : Int → Int) (p : Int) : Prop := ∀ i j, 0 ≤ i → i < j → j < gm_ns (pN D p) (pC D p) → ¬ gm_mt (pX D p i) (pY D p i) (pX D p (gm_nx (pN D p) i)) (pY D p (gm_nx (pN D p) i)) (pX D p j) (pY D p j) (pX D p (gm_nx (pN D p) j)) (pY D p (gm_nx (pN D p) j))
def GV (D : Int → Int) : Prop := ∀ p, 0 ≤ p → p < D 3 → GVp D p
theorem gm_turn_rv {ax ay bx by' px py : Int} : gm_turn bx by' ax ay px py = - gm_turn ax ay bx by' px py := by unfold gm_turn; grind
theorem gm_mt_sy {ax ay bx by' cx cy dx dy : Int} : gm_mt ax ay bx by' cx cy dx dy → gm_mt cx cy dx dy ax ay bx by' := by
  rintro (⟨h, h2⟩ | h | h | h | h | h)
  · exact Or.inl ⟨h2, h⟩
  · exact Or.inr (Or.inr (Or.inr (Or.inl h)))
  · exact Or.inr (Or.inr (Or.inr (Or.inr (Or.inl h))))
  · exact Or.inr (Or.inl h)
  · exact Or.inr (Or.inr (Or.inl h))
  · exact Or.inr (Or.inr (Or.inr (Or.inr (Or.inr (by omega)))))
/-- two sides that end in one place meet there alone -/
theorem gm_mt_v {ax ay qx qy cx cy : Int} (h1 : ¬ gm_wi ax ay qx qy cx cy) (h2 : ¬ gm_wi cx cy qx qy ax ay) (h3 : cx ≠ ax ∨ cy ≠ ay) : ¬ gm_mt ax ay qx qy cx cy qx qy := by
  rintro (⟨h, -⟩ | h | h | h | h | h)
  · unfold gm_ap at h
    have : gm_turn ax ay qx qy qx qy = 0 := by unfold gm_turn; grind
    omega
  · exact h1 h
  · exact h.2 (Or.inr ⟨rfl, rfl⟩)
  · exact h2 h
  · exact h.2 (Or.inr ⟨rfl, rfl⟩)
  · omega
/-- a side, its four numbers -/
def gm_q4 (n : Int) (xs ys : Int → Int) (i : Int) : Int × Int × Int × Int := (xs i, ys i, xs (gm_nx n i), ys (gm_nx n i))
def gm_mq (s t : Int × Int × Int × Int) : Prop := gm_mt s.1 s.2.1 s.2.2.1 s.2.2.2 t.1 t.2.1 t.2.2.1 t.2.2.2
def GQ (n c : Int) (xs ys : Int → Int) : Prop := ∀ i j, 0 ≤ i → i < j → j < gm_ns n c → ¬ gm_mq (gm_q4 n xs ys i) (gm_q4 n xs ys j)
theorem GQ.ne {n c : Int} {xs ys : Int → Int} (h : GQ n c xs ys) {i j : Int} (i0 : 0 ≤ i) (i1 : i < gm_ns n c) (j0 : 0 ≤ j) (j1 : j < gm_ns n c) (e : i ≠ j) : ¬ gm_mq (gm_q4 n xs ys i) (gm_q4 n xs ys j) := by
  rcases Int.lt_or_gt_of_ne e with q | q
  · exact h i j i0 q j1
  · exact fun k => h j i j0 q i1 (gm_mt_sy k)
theorem GQ.same {n c : Int} {xs ys xs' ys' : Int → Int} (h : GQ n c xs ys) (e : ∀ k, 0 ≤ k → k < n → xs' k = xs k ∧ ys' k = ys k) : GQ n c xs' ys' := by
  intro i j i0 ij j1
  have jn : j < n := by unfold gm_ns at j1; split at j1 <;> omega
  have a := e i i0 (by omega)
  have b := e j (by omega) jn
  have ni := gm_nx_r (n := n) i0 (by omega)
  have nj := gm_nx_r (n := n) (k := j) (by omega) jn
  have c := e _ ni.1 ni.2
  have d := e _ nj.1 nj.2
  have := h i j i0 ij j1
  unfold gm_q4 at this ⊢
  rw [a.1, a.2, b.1, b.2, c.1, c.2, d.1, d.2]
  exact this
/-- new sides beside old ones -/
theorem GQ.of {n c n' c' : Int} {xs ys xs' ys' : Int → Int} (h : GQ n c xs ys) (g : Int → Int) (N : Int → Prop) (hN : ∀ i, N i ∨ ¬ N i)
    (ho : ∀ i, 0 ≤ i → i < gm_ns n' c' → ¬ N i → 0 ≤ g i ∧ g i < gm_ns n c ∧ gm_q4 n' xs' ys' i = gm_q4 n xs ys (g i))
    (hi : ∀ i j, 0 ≤ i → i < j → j < gm_ns n' c' → ¬ N i → ¬ N j → g i ≠ g j)
    (h1 : ∀ i j, 0 ≤ i → i < gm_ns n' c' → 0 ≤ j → j < gm_ns n' c' → N i → ¬ N j → ¬ gm_mq (gm_q4 n' xs' ys' i) (gm_q4 n' xs' ys' j))
    (h2 : ∀ i j, 0 ≤ i → i < j → j < gm_ns n' c' → N i → N j → ¬ gm_mq (gm_q4 n' xs' ys' i) (gm_q4 n' xs' ys' j)) : GQ n' c' xs' ys' := by
  intro i j i0 ij j1
  rcases hN i with a | a
  · rcases hN j with b | b
    · exact h2 i j i0 ij j1 a b
    · exact h1 i j i0 (by omega) (by omega) j1 a b
  · rcases hN j with b | b
    · exact fun k => h1 j i (by omega) j1 i0 (by omega) b a (gm_mt_sy k)
    · have p := ho i i0 (by omega) a
      have q := ho j (by omega) j1 b
      rw [p.2.2, q.2.2]
      exact h.ne p.1 p.2.1 q.1 q.2.1 (hi i j i0 ij j1 a b)
theorem gm_lr_cr {D : Int → Int} {lp lc l1 l2 ax ay bx by' : Int} (h : gm_lr D lp lc l1 l2 ax ay bx by' 0) : ¬ gm_bc D lp lc ax ay bx by' ∧ ¬ gm_cr D lp l1 l2 ax ay bx by' := by
  rcases h with ⟨-, h⟩ | ⟨k, ⟨-, h⟩ | ⟨h, -⟩⟩
  · omega
  · omega
  · exact ⟨fun q => k (Or.inr q), h⟩
theorem gm_cr_n {D : Int → Int} {lp l1 l2 ax ay bx by' : Int} (h : ¬ gm_cr D lp l1 l2 ax ay bx by') {p k : Int} (p0 : 0 ≤ p) (p1 : p < D 3) (k0 : 0 ≤ k) (k1 : k < gm_ns (pN D p) (pC D p)) (hl : ¬ (p = lp ∧ (k = l1 ∨ k = l2))) : ¬ gm_mq (ax, ay, bx, by') (gm_q4 (pN D p) (pX D p) (pY D p) k) := fun q => h ⟨p, p0, p1, k, k0, k1, hl, q⟩
theorem GV.q {D : Int → Int} (h : GV D) {p : Int} (p0 : 0 ≤ p) (p1 : p < D 3) : GQ (pN D p) (pC D p) (pX D p) (pY D p) := fun i j i0 ij j1 => h p p0 p1 i j i0 ij j1
theorem GV.set {D : Int → Int} (hD : VD D) (h : GV D) {p n c : Int} {xs ys : Int → Int} (p0 : 0 ≤ p) (hn : n ≤ 12) (g : GQ n c xs ys) : GV (gm_setP D p n c xs ys) := by
  intro q q0 q1
  rw [gm_setP_o (i := 3) (by omega)] at q1
  show GQ _ _ _ _
  by_cases e : q = p
  · subst e
    rw [gm_setP_n, gm_setP_c]
    exact g.same fun k k0 k1 => gm_setP_x k0 (by omega)
  · obtain ⟨u1, u2, u3, u4⟩ := gm_setP_q (D := D) (n := n) (c := c) (xs := xs) (ys := ys) e
    rw [u1, u2]
    have hv := (hD.2.2.2.2.2 q q0 q1).2.1
    exact (h.q q0 q1).same fun k k0 k1 => u4 k k0 (by omega)
theorem gm_rC_lr {D : Int → Int} {p x y : Int} (h : gm_rC D p x y 0) : gm_lr D (-1) (-1) (-1) (-1) (pX D p (pN D p - 1)) (pY D p (pN D p - 1)) x y 0 := by
  rcases h with ⟨a, e⟩ | ⟨a, ⟨b, e⟩ | ⟨b, ⟨c, e⟩ | ⟨c, e⟩⟩⟩ <;> first | exact e | omega
theorem gm_rL_lr {D : Int → Int} {p : Int} (h : gm_rL D p 0) : gm_lr D (-1) (-1) (-1) (-1) (pX D p (pN D p - 1)) (pY D p (pN D p - 1)) (pX D p 0) (pY D p 0) 0 := by
  rcases h with ⟨a, e⟩ | ⟨a, ⟨b, e⟩ | ⟨b, e⟩⟩ <;> first | exact e | omega
theorem gm_rB_lr {D : Int → Int} {p k x y : Int} (h : gm_rB D p k x y 0) : gm_lr D p (-1) k (-1) (pX D p k) (pY D p k) x y 0 ∧ gm_lr D p (-1) k (-1) (pX D p (gm_nx (pN D p) k)) (pY D p (gm_nx (pN D p) k)) x y 0 := by
  rcases h with ⟨a, e⟩ | ⟨a, ⟨b, e⟩ | ⟨b, ⟨c, e⟩ | ⟨c, z1, e, ⟨n, e2⟩ | ⟨n, e2⟩⟩⟩⟩
  · omega
  · omega
  · omega
  · omega
  · subst n; exact ⟨e, e2⟩
theorem gm_rT_lr {D : Int → Int} {p k : Int} (h : gm_rT D p k 0) : gm_lr D p k (gm_pv (pN D p) k) k (pX D p (gm_pv (pN D p) k)) (pY D p (gm_pv (pN D p) k)) (pX D p (gm_nx (pN D p) k)) (pY D p (gm_nx (pN D p) k)) 0 := by
  rcases h with ⟨a, e⟩ | ⟨a, ⟨b, e⟩ | ⟨b, e⟩⟩ <;> first | exact e | omega
theorem gm_q4_e {n n' i i' : Int} {xs ys xs' ys' : Int → Int} (a : xs' i' = xs i) (b : ys' i' = ys i) (c : xs' (gm_nx n' i') = xs (gm_nx n i)) (d : ys' (gm_nx n' i') = ys (gm_nx n i)) : gm_q4 n' xs' ys' i' = gm_q4 n xs ys i := by
  unfold gm_q4
  rw [a, b, c, d]
theorem gm_q4_l {n i ax ay bx by' : Int} {xs ys : Int → Int} (a : xs i = ax) (b : ys i = ay) (c : xs (gm_nx n i) = bx) (d : ys (gm_nx n i) = by') : gm_q4 n xs ys i = (ax, ay, bx, by') := by
  unfold gm_q4
  rw [a, b, c, d]
theorem GV.clP {D : Int → Int} (hD : VD D) (h : GV D) {p : Int} (p0 : 0 ≤ p) (p1 : p < D 3) (r : gm_rL D p 0) : GV (gm_clP D p) := by
  have v := (hD.2.2.2.2.2 p p0 p1).2.1
  obtain ⟨c0, c1⟩ := gm_rL_0 r
  have l := (gm_lr_cr (gm_rL_lr r)).2
  have n1 : gm_ns (pN D p) (pC D p) = pN D p - 1 := if_pos c0
  refine h.set hD p0 (by omega) (GQ.of (h.q p0 p1) (fun i => i) (fun i => i = pN D p - 1) (fun i => by omega) (fun i i0 i1 iN => ?_) (fun i j i0 ij j1 a b => by omega) (fun i j i0 i1 j0 j1 a b => ?_) (fun i j i0 ij j1 a b => by omega))
  · have i1 : i < pN D p := i1
    exact ⟨i0, by omega, rfl⟩
  · subst a
    have j1 : j < pN D p := j1
    have := gm_cr_n l p0 p1 j0 (by omega) (by omega)
    rw [gm_q4_l (n := pN D p) (i := pN D p - 1) (xs := pX D p) (ys := pY D p) rfl rfl (show pX D p (gm_nx (pN D p) (pN D p - 1)) = pX D p 0 by unfold gm_nx; rw [if_neg (by omega)]) (show pY D p (gm_nx (pN D p) (pN D p - 1)) = pY D p 0 by unfold gm_nx; rw [if_neg (by omega)])]
    exact this
theorem gm_in_lt {p x k : Int} {xs : Int → Int} (h : k < p) : gm_in p x xs k = xs k := if_pos h
theorem gm_in_eq {p x : Int} {xs : Int → Int} : gm_in p x xs p = x := by unfold gm_in; rw [if_neg (by omega), if_pos rfl]
theorem gm_in_gt {p x k : Int} {xs : Int → Int} (h : p < k) : gm_in p x xs k = xs (k - 1) := by unfold gm_in; rw [if_neg (by omega), if_neg (by omega)]
theorem gm_ou_lt {p k : Int} {xs : Int → Int} (h : k < p) : gm_ou p xs k = xs k := if_pos h
theorem gm_ou_ge {p k : Int} {xs : Int → Int} (h : p ≤ k) : gm_ou p xs k = xs (k + 1) := if_neg (by omega)
theorem gm_nx_l {n k : Int} (h : k + 1 < n) : gm_nx n k = k + 1 := if_pos h
theorem gm_nx_e {n k : Int} (h : ¬ k + 1 < n) : gm_nx n k = 0 := if_neg h
theorem GV.adC {D : Int → Int} (hD : VD D) (h : GV D) {p x y : Int} (p0 : 0 ≤ p) (p1 : p < D 3) (r : gm_rC D p x y 0) : GV (gm_adC D p x y) := by
  have v := (hD.2.2.2.2.2 p p0 p1).2.1
  obtain ⟨c0, c1, -⟩ := gm_rC_0 r
  have l := (gm_lr_cr (gm_rC_lr r)).2
  have n1 : gm_ns (pN D p) (pC D p) = pN D p - 1 := if_pos c0
  have n2 : gm_ns (pN D p + 1) (pC D p) = pN D p := by unfold gm_ns; rw [if_pos c0]; omega
  refine h.set hD p0 (by omega) (GQ.of (h.q p0 p1) (fun i => i) (fun i => i = pN D p - 1) (fun i => by omega) (fun i i0 i1 iN => ?_) (fun i j i0 ij j1 a b => by omega) (fun i j i0 i1 j0 j1 a b => ?_) (fun i j i0 ij j1 a b => by omega))
  · rw [n2] at i1
    refine ⟨i0, by omega, gm_q4_e (gm_in_lt (by omega)) (gm_in_lt (by omega)) ?_ ?_⟩
    · rw [gm_nx_l (by omega), gm_nx_l (by omega), gm_in_lt (by omega)]
    · rw [gm_nx_l (by omega), gm_nx_l (by omega), gm_in_lt (by omega)]
  · subst a
    rw [n2] at j1
    have := gm_cr_n l p0 p1 j0 (by omega) (by omega)
    have e : gm_nx (pN D p + 1) (pN D p - 1) = pN D p := by rw [gm_nx_l (by omega)]; omega
    have s1 : gm_q4 (pN D p + 1) (gm_in (pN D p) x (pX D p)) (gm_in (pN D p) y (pY D p)) (pN D p - 1) = (pX D p (pN D p - 1), pY D p (pN D p - 1), x, y) := gm_q4_l (gm_in_lt (by omega)) (gm_in_lt (by omega)) (by rw [e]; exact gm_in_eq) (by rw [e]; exact gm_in_eq)
    have s2 : gm_q4 (pN D p + 1) (gm_in (pN D p) x (pX D p)) (gm_in (pN D p) y (pY D p)) j = gm_q4 (pN D p) (pX D p) (pY D p) j := gm_q4_e (gm_in_lt (by omega)) (gm_in_lt (by omega)) (by rw [gm_nx_l (by omega), gm_nx_l (by omega), gm_in_lt (by omega)]) (by rw [gm_nx_l (by omega), gm_nx_l (by omega), gm_in_lt (by omega)])
    rw [s1, s2]
    exact this
theorem GV.bnD {D : Int → Int} (hD : VD D) (hE : VE D) (h : GV D) {p k x y : Int} (p0 : 0 ≤ p) (p1 : p < D 3) (k0 : 0 ≤ k) (k1 : k < pN D p) (r : gm_rB D p k x y 0) : GV (gm_bnD D p k x y) := by
  have v := (hD.2.2.2.2.2 p p0 p1).2
  obtain ⟨c0, c1, c2⟩ := gm_rB_0 r
  obtain ⟨l1, l2⟩ := gm_rB_lr r
  have l1 := gm_lr_cr l1
  have l2 := gm_lr_cr l2
  have n1 : gm_ns (pN D p) (pC D p) = pN D p := if_neg (by omega)
  have n2 : gm_ns (pN D p + 1) (pC D p) = pN D p + 1 := if_neg (by omega)
  have nr := gm_nx_r k0 k1
  have e1 : gm_nx (pN D p + 1) k = k + 1 := gm_nx_l (by omega)
  have f1 : ∀ f : Int → Int, ∀ z : Int, gm_in (k + 1) z f (gm_nx (pN D p + 1) (k + 1)) = f (gm_nx (pN D p) k) := by
    intro f z
    by_cases q : k + 1 < pN D p
    · rw [gm_nx_l q, gm_nx_l (by omega), gm_in_gt (by omega)]
      congr 1
      omega
    · rw [gm_nx_e q, gm_nx_e (by omega), gm_in_lt (by omega)]
  have s1 : gm_q4 (pN D p + 1) (gm_in (k + 1) x (pX D p)) (gm_in (k + 1) y (pY D p)) k = (pX D p k, pY D p k, x, y) := gm_q4_l (gm_in_lt (by omega)) (gm_in_lt (by omega)) (by rw [e1]; exact gm_in_eq) (by rw [e1]; exact gm_in_eq)
  have s2 : gm_q4 (pN D p + 1) (gm_in (k + 1) x (pX D p)) (gm_in (k + 1) y (pY D p)) (k + 1) = (x, y, pX D p (gm_nx (pN D p) k), pY D p (gm_nx (pN D p) k)) := gm_q4_l gm_in_eq gm_in_eq (f1 _ _) (f1 _ _)
  have so : ∀ i, 0 ≤ i → i < pN D p + 1 → ¬ (i = k ∨ i = k + 1) → gm_q4 (pN D p + 1) (gm_in (k + 1) x (pX D p)) (gm_in (k + 1) y (pY D p)) i = gm_q4 (pN D p) (pX D p) (pY D p) (if i < k then i else i - 1) := by
    intro i i0 i1 q
    by_cases c : i < k
    · rw [if_pos c]
      refine gm_q4_e (gm_in_lt (by omega)) (gm_in_lt (by omega)) ?_ ?_
      · rw [gm_nx_l (by omega), gm_nx_l (by omega), gm_in_lt (by omega)]
      · rw [gm_nx_l (by omega), gm_nx_l (by omega), gm_in_lt (by omega)]
    · rw [if_neg c]
      have f : ∀ f : Int → Int, ∀ z : Int, gm_in (k + 1) z f (gm_nx (pN D p + 1) i) = f (gm_nx (pN D p) (i - 1)) := by
        intro f z
        by_cases c : i + 1 < pN D p + 1
        · rw [gm_nx_l c, gm_nx_l (by omega), gm_in_gt (by omega)]
          congr 1
          omega
        · rw [gm_nx_e c, gm_nx_e (by omega), gm_in_lt (by omega)]
      exact gm_q4_e (gm_in_gt (by omega)) (gm_in_gt (by omega)) (f _ _) (f _ _)
  have w1 : ∀ j, 0 ≤ j → j < pN D p → j ≠ k → ¬ gm_mq (pX D p k, pY D p k, x, y) (gm_q4 (pN D p) (pX D p) (pY D p) j) := fun j j0 j1 e => gm_cr_n l1.2 p0 p1 j0 (by omega) (by omega)
  have w2 : ∀ j, 0 ≤ j → j < pN D p → j ≠ k → ¬ gm_mq (x, y, pX D p (gm_nx (pN D p) k), pY D p (gm_nx (pN D p) k)) (gm_q4 (pN D p) (pX D p) (pY D p) j) := fun j j0 j1 e q => gm_cr_n l2.2 p0 p1 j0 (by omega) (by omega) (gm_mt_ws q)
  refine h.set hD p0 (by omega) (GQ.of (h.q p0 p1) (fun i => if i < k then i else i - 1) (fun i => i = k ∨ i = k + 1) (fun i => by omega) (fun i i0 i1 iN => ?_) (fun i j i0 ij j1 a b => ?_) (fun i j i0 i1 j0 j1 a b => ?_) (fun i j i0 ij j1 a b => ?_))
  · rw [n2] at i1
    refine ⟨?_, ?_, so i i0 i1 iN⟩
    · show 0 ≤ if i < k then i else i - 1
      split <;> omega
    · show (if i < k then i else i - 1) < _
      rw [n1]
      split <;> omega
  · show (if i < k then i else i - 1) ≠ if j < k then j else j - 1
    split <;> split <;> omega
  · rw [n2] at i1 j1
    rw [so j j0 j1 b]
    have g1 : 0 ≤ (if j < k then j else j - 1) ∧ (if j < k then j else j - 1) < pN D p ∧ (if j < k then j else j - 1) ≠ k := by split <;> omega
    rcases a with rfl | rfl
    · rw [s1]; exact w1 _ g1.1 g1.2.1 g1.2.2
    · rw [s2]; exact w2 _ g1.1 g1.2.1 g1.2.2
  · obtain rfl : i = k := by omega
    obtain rfl : j = i + 1 := by omega
    rw [s1, s2]
    have q1 := hE.ne p0 p1 k0 k1 nr.1 nr.2 (by unfold gm_nx; split <;> omega)
    refine fun q => gm_mt_v (fun q => l1.1 ⟨p, p0, p1, _, nr.1, nr.2, by omega, q⟩) (fun q => l2.1 ⟨p, p0, p1, _, k0, k1, by omega, q⟩) q1 (gm_mt_sw q)
theorem GV.toD {D : Int → Int} (hD : VD D) (h : GV D) {p k : Int} (p0 : 0 ≤ p) (p1 : p < D 3) (k0 : 0 ≤ k) (k1 : k < pN D p) (r : gm_rT D p k 0) : GV (gm_toD D p k) := by
  have v := (hD.2.2.2.2.2 p p0 p1).2.1
  obtain ⟨c0, c1⟩ := gm_rT_0 r
  have l := (gm_lr_cr (gm_rT_lr r)).2
  have n1 : gm_ns (pN D p) (pC D p) = pN D p := if_neg (by omega)
  have n2 : gm_ns (pN D p - 1) (pC D p) = pN D p - 1 := if_neg (by omega)
  let m := if 0 < k then k - 1 else pN D p - 2
  have hm : (0 < k ∧ m = k - 1) ∨ (k = 0 ∧ m = pN D p - 2) := by
    by_cases c : 0 < k
    · exact Or.inl ⟨c, if_pos c⟩
    · exact Or.inr ⟨by omega, if_neg c⟩
  generalize m = m at hm
  have so : ∀ i, 0 ≤ i → i < pN D p - 1 → i ≠ m → gm_q4 (pN D p - 1) (gm_ou k (pX D p)) (gm_ou k (pY D p)) i = gm_q4 (pN D p) (pX D p) (pY D p) (if i < k then i else i + 1) := by
    intro i i0 i1 q
    by_cases c : i < k
    · rw [if_pos c]
      have f : ∀ f : Int → Int, gm_ou k f (gm_nx (pN D p - 1) i) = f (gm_nx (pN D p) i) := by
        intro f
        rw [gm_nx_l (by omega), gm_nx_l (by omega), gm_ou_lt (by omega)]
      exact gm_q4_e (gm_ou_lt c) (gm_ou_lt c) (f _) (f _)
    · rw [if_neg c]
      have f : ∀ f : Int → Int, gm_ou k f (gm_nx (pN D p - 1) i) = f (gm_nx (pN D p) (i + 1)) := by
        intro f
        by_cases e : i + 1 < pN D p - 1
        · rw [gm_nx_l e, gm_nx_l (by omega), gm_ou_ge (by omega)]
        · rw [gm_nx_e e, gm_nx_e (by omega), gm_ou_lt (by omega)]
      exact gm_q4_e (gm_ou_ge (by omega)) (gm_ou_ge (by omega)) (f _) (f _)
  have fp : ∀ f : Int → Int, gm_ou k f m = f (gm_pv (pN D p) k) := by
    intro f
    unfold gm_pv
    rcases hm with ⟨a, b⟩ | ⟨a, b⟩
    · rw [if_pos a, gm_ou_lt (by omega), b]
    · rw [if_neg (by omega), gm_ou_ge (by omega), b]
      congr 1
      omega
  have fn : ∀ f : Int → Int, gm_ou k f (gm_nx (pN D p - 1) m) = f (gm_nx (pN D p) k) := by
    intro f
    rcases hm with ⟨a, b⟩ | ⟨a, b⟩
    · by_cases e : k + 1 < pN D p
      · rw [gm_nx_l (by omega), gm_nx_l e, gm_ou_ge (by omega), b]
        congr 1
        omega
      · rw [gm_nx_e (by omega), gm_nx_e e, gm_ou_lt (by omega)]
    · rw [gm_nx_e (by omega), gm_nx_l (by omega), gm_ou_ge (by omega), a]
  have sn := gm_q4_l (n := pN D p - 1) (i := m) (fp (pX D p)) (fp (pY D p)) (fn (pX D p)) (fn (pY D p))
  have pe : (0 < k ∧ gm_pv (pN D p) k = k - 1) ∨ (k = 0 ∧ gm_pv (pN D p) k = pN D p - 1) := by
    by_cases c : 0 < k
    · exact Or.inl ⟨c, if_pos c⟩
    · exact Or.inr ⟨by omega, if_neg c⟩
  have w : ∀ j, 0 ≤ j → j < pN D p → j ≠ k → j ≠ gm_pv (pN D p) k → ¬ gm_mq (pX D p (gm_pv (pN D p) k), pY D p (gm_pv (pN D p) k), pX D p (gm_nx (pN D p) k), pY D p (gm_nx (pN D p) k)) (gm_q4 (pN D p) (pX D p) (pY D p) j) := fun j j0 j1 e e2 => gm_cr_n l p0 p1 j0 (by omega) (by omega)
  refine h.set hD p0 (by omega) (GQ.of (h.q p0 p1) (fun i => if i < k then i else i + 1) (fun i => i = m) (fun i => by omega) (fun i i0 i1 iN => ?_) (fun i j i0 ij j1 a b => ?_) (fun i j i0 i1 j0 j1 a b => ?_) (fun i j i0 ij j1 a b => by omega))
  · rw [n2] at i1
    refine ⟨?_, ?_, so i i0 i1 iN⟩
    · show 0 ≤ if i < k then i else i + 1
      split <;> omega
    · show (if i < k then i else i + 1) < _
      rw [n1]
      split <;> omega
  · show (if i < k then i else i + 1) ≠ if j < k then j else j + 1
    split <;> split <;> omega
  · rw [n2] at i1 j1
    subst a
    rw [so j j0 j1 b, sn]
    refine w _ ?_ ?_ ?_ ?_ <;> split <;> omega
theorem GV.emp {x y : Int} : GV (gm_emp x y) := fun p p0 p1 => absurd p1 (by show ¬ p < 0; omega)
theorem GV.ext {D E : Int → Int} (h : GV D) (hD : VD D) (e : E 3 ≤ D 3) (f : ∀ p, 0 ≤ p → p < E 3 → pN E p = pN D p ∧ pC E p = pC D p ∧ ∀ k, 0 ≤ k → k < 12 → pX E p k = pX D p k ∧ pY E p k = pY D p k) : GV E := by
  intro p p0 p1
  obtain ⟨a, b, c⟩ := f p p0 p1
  have v := (hD.2.2.2.2.2 p p0 (by omega)).2.1
  show GQ _ _ _ _
  rw [a, b]
  exact (h.q p0 (by omega)).same fun k k0 k1 => c k k0 (by omega)
theorem GV.addS {D : Int → Int} (hD : VD D) (h : GV D) (hl : D 2 < 20) {x y v : Int} : GV (gm_addS D x y v) := by
  have d2 := hD.2.2.1
  have o : ∀ i, 66 ≤ i ∨ i = 3 → gm_addS D x y v i = D i := fun i h => gm_addS_o (by omega) (by omega)
  refine h.ext hD (by rw [o 3 (Or.inr rfl)]; omega) fun p p0 p1 => ⟨o _ (by omega), o _ (by omega), fun k k0 k1 => ⟨o _ (by omega), o _ (by omega)⟩⟩
theorem GV.stP {D : Int → Int} (hD : VD D) (h : GV D) {o x y : Int} : GV (gm_stP D o x y) := by
  have d3 := hD.2.2.2.1
  have e : ∀ i : Int, i ≠ 3 → ¬ (66 + 27 * D 3 ≤ i ∧ i ≤ 70 + 27 * D 3) → gm_stP D o x y i = D i := by
    intro i h1 h2
    unfold gm_stP am_uI
    rw [if_neg h1, if_neg (by omega), if_neg (by omega), if_neg (by omega), if_neg (by omega), if_neg (by omega)]
  have e3 : gm_stP D o x y 3 = D 3 + 1 := by unfold gm_stP am_uI; rw [if_pos rfl]
  intro p p0 p1
  rw [e3] at p1
  by_cases q : p = D 3
  · subst q
    have u1 : pN (gm_stP D o x y) (D 3) = 1 := by unfold pN gm_stP am_uI; rw [if_neg (by omega), if_neg (by omega), if_neg (by omega), if_neg (by omega), if_pos rfl]
    intro i j i0 ij j1
    rw [u1] at j1
    unfold gm_ns at j1
    split at j1 <;> omega
  · have v := (hD.2.2.2.2.2 p p0 (by omega)).2.1
    show GQ _ _ _ _
    rw [show pN (gm_stP D o x y) p = pN D p from e _ (by omega) (by omega), show pC (gm_stP D o x y) p = pC D p from e _ (by omega) (by omega)]
    exact (h.q p0 (by omega)).same fun k k0 k1 => ⟨e _ (by omega) (by omega), e _ (by omega) (by omega)⟩
theorem GV.drP {D : Int → Int} (hD : VD D) (h : GV D) {p : Int} (p0 : 0 ≤ p) (p1 : p < D 3) : GV (gm_drP D p) := by
  have d3 := hD.2.2.2.1
  have e3 : gm_drP D p 3 = D 3 - 1 := if_pos rfl
  have lo : ∀ i, i ≠ 3 → i < 66 + 27 * p → gm_drP D p i = D i := fun i a b => by unfold gm_drP; rw [if_neg a, if_neg (by omega)]
  have hi : ∀ i, 66 + 27 * p ≤ i → i < 228 → gm_drP D p i = D (i + 27) := fun i a b => by unfold gm_drP; rw [if_neg (by omega), if_pos (by omega)]
  intro q q0 q1
  rw [e3] at q1
  show GQ _ _ _ _
  by_cases c : q < p
  · have v := (hD.2.2.2.2.2 q q0 (by omega)).2.1
    rw [show pN (gm_drP D p) q = pN D q from lo _ (by omega) (by omega), show pC (gm_drP D p) q = pC D q from lo _ (by omega) (by omega)]
    exact (h.q q0 (by omega)).same fun k k0 k1 => ⟨lo _ (by omega) (by omega), lo _ (by omega) (by omega)⟩
  · have v := (hD.2.2.2.2.2 (q + 1) (by omega) (by omega)).2.1
    have t : ∀ b : Int, 66 ≤ b → b ≤ 92 → gm_drP D p (b + 27 * q) = D (b + 27 * (q + 1)) := fun b b0 b1 => by
      rw [hi _ (by omega) (by omega)]
      congr 1
      omega
    rw [show pN (gm_drP D p) q = pN D (q + 1) from t _ (by omega) (by omega), show pC (gm_drP D p) q = pC D (q + 1) from t _ (by omega) (by omega)]
    refine (h.q (p := q + 1) (by omega) (by omega)).same fun k k0 k1 => ⟨?_, ?_⟩
    · exact (congrArg (gm_drP D p) (show 69 + 27 * q + 2 * k = (69 + 2 * k) + 27 * q by omega)).trans ((t _ (by omega) (by omega)).trans (congrArg D (show 69 + 2 * k + 27 * (q + 1) = 69 + 27 * (q + 1) + 2 * k by omega)))
    · exact (congrArg (gm_drP D p) (show 70 + 27 * q + 2 * k = (70 + 2 * k) + 27 * q by omega)).trans ((t _ (by omega) (by omega)).trans (congrArg D (show 70 + 2 * k + 27 * (q + 1) = 70 + 27 * (q + 1) + 2 * k by omega)))
