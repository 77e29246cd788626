/-! CornerClaimsModel: what it writes; its guards. -/
theorem gm_up1 {D E : Int → Int} {c i m q r : Int} (hE : ∀ j, E j = if c + i + 3 ≤ j ∧ j < c + m + 2 then D (j - 2) else D j) (hq : q = c + i + 2) (hr : r = c + i) (hi : i < m) : ∀ j, am_uI E q (E r) j = if c + (i - 1) + 3 ≤ j ∧ j < c + m + 2 then D (j - 2) else D j := by
  intro j
  subst hq hr
  unfold am_uI
  by_cases e : j = c + i + 2
  · rw [if_pos e, hE, if_neg (by omega), if_pos (by omega)]
    exact congrArg D (by omega)
  · rw [if_neg e, hE]
    by_cases q : c + i + 3 ≤ j ∧ j < c + m + 2
    · rw [if_pos q, if_pos (by omega)]
    · rw [if_neg q, if_neg (by omega)]
/-- a corner put in at place k, as the model does it -/
def gm_ptc (D : Int → Int) (p k x y j : Int) : Int := if j = 67 + 27 * p then D j + 1 else if j = 69 + 27 * p + 2 * k then x else if j = 70 + 27 * p + 2 * k then y else if 69 + 27 * p + 2 * k + 2 ≤ j ∧ j < 69 + 27 * p + 2 * pN D p + 2 then D (j - 2) else D j
theorem gm_ptc_e {D E : Int → Int} {p k x y i q1 q2 q3 : Int} (hE : ∀ j, E j = if 69 + 27 * p + i + 3 ≤ j ∧ j < 69 + 27 * p + 2 * pN D p + 2 then D (j - 2) else D j) (hi : i = 2 * k - 1) (k0 : 0 ≤ k) (h1 : q1 = 69 + 27 * p + 2 * k) (h2 : q2 = 70 + 27 * p + 2 * k) (h3 : q3 = 67 + 27 * p) : am_uI (am_uI (am_uI E q1 x) q2 y) q3 (am_uI (am_uI E q1 x) q2 y q3 + 1) = gm_ptc D p k x y := by
  funext j
  subst hi h1 h2 h3
  unfold gm_ptc am_uI
  by_cases e : j = 67 + 27 * p
  · rw [if_pos e, if_pos e, if_neg (by omega), if_neg (by omega), hE, if_neg (by omega), e]
  · rw [if_neg e, if_neg e]
    by_cases e2 : j = 69 + 27 * p + 2 * k
    · rw [if_neg (by omega), if_pos e2, if_pos e2]
    · rw [if_neg e2]
      by_cases e3 : j = 70 + 27 * p + 2 * k
      · rw [if_pos e3, if_neg e2, if_pos e3]
      · rw [if_neg e3, if_neg e2, if_neg e3, hE]
        by_cases e4 : 69 + 27 * p + 2 * k + 2 ≤ j ∧ j < 69 + 27 * p + 2 * pN D p + 2
        · rw [if_pos (by omega), if_pos e4]
        · rw [if_neg (by omega), if_neg e4]
/-- what the score's code is stays -/
def gm_up (D E : Int → Int) : Prop := E 4 = D 4 ∧ E 5 = D 5 ∧ ∀ i, 228 ≤ i → E i = D i
theorem gm_up.rf {D : Int → Int} : gm_up D D := ⟨rfl, rfl, fun _ _ => rfl⟩
theorem gm_up.tr {D E F : Int → Int} (a : gm_up D E) (b : gm_up E F) : gm_up D F := ⟨b.1.trans a.1, b.2.1.trans a.2.1, fun i h => (b.2.2 i h).trans (a.2.2 i h)⟩
theorem CO.up {D E : Int → Int} {L : GL} (h : CO D L) (u : gm_up D E) : CO E L := by
  rcases h with ⟨a, b, c⟩ | ⟨a, b, c, d, e⟩
  · exact Or.inl ⟨u.1.trans a, u.2.1.trans b, c⟩
  · exact Or.inr ⟨u.1.trans a, u.2.1.trans b, c, d, fun k v hk => (u.2.2 _ (by omega)).trans (e k v hk)⟩
theorem gm_ptc_o {D : Int → Int} {p k x y j : Int} (k0 : 0 ≤ k) (k1 : k ≤ pN D p) (n1 : pN D p < 12) (h : j < 67 + 27 * p ∨ j = 68 + 27 * p ∨ 93 + 27 * p ≤ j) : gm_ptc D p k x y j = D j := by
  unfold gm_ptc
  rw [if_neg (by omega), if_neg (by omega), if_neg (by omega), if_neg (by omega)]
theorem gm_ptc_up {D : Int → Int} {p k x y : Int} (p0 : 0 ≤ p) (p1 : p < 6) (k0 : 0 ≤ k) (k1 : k ≤ pN D p) (n1 : pN D p < 12) : gm_up D (gm_ptc D p k x y) := ⟨gm_ptc_o k0 k1 n1 (by omega), gm_ptc_o k0 k1 n1 (by omega), fun i h => gm_ptc_o k0 k1 n1 (by omega)⟩
theorem gm_ptc_x {D : Int → Int} {p k x y j : Int} (k0 : 0 ≤ k) (k1 : k ≤ pN D p) (j0 : 0 ≤ j) (j1 : j < pN D p + 1) : pX (gm_ptc D p k x y) p j = gm_in k x (pX D p) j ∧ pY (gm_ptc D p k x y) p j = gm_in k y (pY D p) j := by
  unfold pX pY gm_ptc gm_in
  constructor
  · rw [if_neg (by omega)]
    by_cases e : j = k
    · rw [if_pos (by omega), if_neg (by omega), if_pos e]
    · rw [if_neg (by omega), if_neg (by omega)]
      by_cases e2 : j < k
      · rw [if_neg (by omega), if_pos e2]
      · rw [if_pos (by omega), if_neg e2, if_neg e]
        exact congrArg D (by omega)
  · rw [if_neg (by omega), if_neg (by omega)]
    by_cases e : j = k
    · rw [if_pos (by omega), if_neg (by omega), if_pos e]
    · rw [if_neg (by omega)]
      by_cases e2 : j < k
      · rw [if_neg (by omega), if_pos e2]
      · rw [if_pos (by omega), if_neg e2, if_neg e]
        exact congrArg D (by omega)
theorem gm_ptc_same {D : Int → Int} {p k x y : Int} (p0 : 0 ≤ p) (k0 : 0 ≤ k) (k1 : k ≤ pN D p) (n1 : pN D p < 12) (h2 : 0 ≤ D 2 ∧ D 2 ≤ 20) (hD : ∀ q, 0 ≤ q → q < D 3 → 0 ≤ pN D q ∧ pN D q ≤ 12) : gm_same (gm_setP D p (pN D p + 1) (pC D p) (gm_in k x (pX D p)) (gm_in k y (pY D p))) (gm_ptc D p k x y) := by
  have s : ∀ i, i < 67 + 27 * p ∨ 93 + 27 * p ≤ i → gm_ptc D p k x y i = gm_setP D p (pN D p + 1) (pC D p) (gm_in k x (pX D p)) (gm_in k y (pY D p)) i := fun i h => by
    rw [gm_setP_o h]
    exact gm_ptc_o k0 k1 n1 (by omega)
  have s2 : ∀ i, i < 67 → gm_setP D p (pN D p + 1) (pC D p) (gm_in k x (pX D p)) (gm_in k y (pY D p)) i = D i := fun i h => gm_setP_o (by omega)
  refine ⟨s _ (by omega), s _ (by omega), s _ (by omega), s _ (by omega), fun q q0 q1 => ?_, fun q q0 q1 => ?_⟩
  · rw [s2 2 (by omega)] at q1
    exact ⟨s _ (by omega), s _ (by omega), s _ (by omega)⟩
  · rw [s2 3 (by omega)] at q1
    by_cases e : q = p
    · subst e
      refine ⟨s _ (by omega), ?_, ?_, fun j j0 j1 => ?_⟩
      · rw [gm_setP_n]
        unfold pN gm_ptc
        rw [if_pos rfl]
      · rw [gm_setP_c]
        exact gm_ptc_o k0 k1 n1 (by omega)
      · rw [gm_setP_n] at j1
        obtain ⟨e1, e2⟩ := gm_setP_x (D := D) (p := q) (n := pN D q + 1) (c := pC D q) (xs := gm_in k x (pX D q)) (ys := gm_in k y (pY D q)) j0 (by omega)
        rw [e1, e2]
        exact gm_ptc_x k0 k1 j0 j1
    · obtain ⟨e1, e2, e3, e4⟩ := gm_setP_q (D := D) (p := p) (n := pN D p + 1) (c := pC D p) (xs := gm_in k x (pX D p)) (ys := gm_in k y (pY D p)) e
      rw [e1]
      have b := hD q q0 q1
      refine ⟨s _ (by omega), ?_, s _ (by omega), fun j j0 j1 => ⟨s _ (by omega), s _ (by omega)⟩⟩
      have := s (67 + 27 * q) (by omega)
      rw [← e1]
      exact this
/-- a polygon begun, as the model does it -/
def gm_bgn (D : Int → Int) (pl x y : Int) : Int → Int := gm_ptc (am_uI (am_uI (am_uI (am_uI D (66 + 27 * D 3) pl) (67 + 27 * D 3) 0) (68 + 27 * D 3) 0) 3 (D 3 + 1)) (D 3) 0 x y
theorem gm_bgn_e {D : Int → Int} (h3 : 0 ≤ D 3 ∧ D 3 < 6) (pl x y : Int) : gm_bgn D pl x y = gm_stP D pl x y := by
  funext j
  unfold gm_bgn gm_ptc gm_stP pN
  have e1 : ∀ a b c d e : Int, am_uI (am_uI (am_uI (am_uI D (66 + 27 * D 3) a) (67 + 27 * D 3) b) (68 + 27 * D 3) c) 3 d (67 + 27 * D 3) = b := fun a b c d e => by unfold am_uI; rw [if_neg (by omega), if_neg (by omega), if_pos rfl]
  rw [e1 _ _ _ _ 0]
  by_cases c1 : j = 67 + 27 * D 3
  · rw [if_pos c1, c1, e1 _ _ _ _ 0]
    unfold am_uI
    rw [if_neg (by omega), if_neg (by omega), if_neg (by omega), if_neg (by omega), if_pos rfl]
    rfl
  · rw [if_neg c1]
    by_cases c2 : j = 69 + 27 * D 3
    · rw [if_pos (by omega)]
      unfold am_uI
      rw [if_neg (by omega), if_neg (by omega), if_pos (by omega)]
    · rw [if_neg (by omega)]
      by_cases c3 : j = 70 + 27 * D 3
      · rw [if_pos (by omega)]
        unfold am_uI
        rw [if_neg (by omega), if_pos (by omega)]
      · rw [if_neg (by omega), if_neg (by omega)]
        unfold am_uI
        by_cases c4 : j = 3
        · rw [if_pos c4, if_pos c4]
        · rw [if_neg c4, if_neg c4, if_neg c3, if_neg c2, if_neg c1, if_neg c1]
theorem gm_stP_up {D : Int → Int} (h3 : 0 ≤ D 3 ∧ D 3 < 6) (pl x y : Int) : gm_up D (gm_stP D pl x y) := by
  refine ⟨?_, ?_, fun i h => ?_⟩ <;>
  · unfold gm_stP am_uI
    rw [if_neg (by omega), if_neg (by omega), if_neg (by omega), if_neg (by omega), if_neg (by omega), if_neg (by omega)]
/-- the model's other arrays -/
def am_rw (n : Nat) (i : Int) : Option Nat := if 0 ≤ i ∧ i < 8 then some (n + 5 + i.toNat) else none
def MRX (h : AH) (n : Nat) (bf od : Int → Int) (rw : Int → Int → Int) : Prop := h.1 (n + 1) = some (100, 800, bf, am_N) ∧ h.1 (n + 3) = some (100, 1528, od, am_N) ∧ h.1 (n + 4) = some (105, 8, am_L [], am_rw n) ∧ ∀ i, 0 ≤ i → i < 8 → h.1 (n + 5 + i.toNat) = some (100, 1528, rw i, am_N)
theorem MRX.kept {h h1 : AH} {n lo hi : Nat} {bf od : Int → Int} {rw : Int → Int → Int} (k : MRX h n bf od rw) (f : am_fr h h1 lo hi) (hd : hi ≤ n + 1 ∨ n + 13 ≤ lo ∨ (lo = n + 2 ∧ hi = n + 3)) : MRX h1 n bf od rw := ⟨(f.2 _ (by omega)).trans k.1, (f.2 _ (by omega)).trans k.2.1, (f.2 _ (by omega)).trans k.2.2.1, fun i i0 i1 => (f.2 _ (by omega)).trans (k.2.2.2 i i0 i1)⟩
/-- the whole of the model -/
def MA (h : AH) (n : Nat) (th bl eo ud : Int) (bf : Int → Int) (rw : Int → Int → Int) (D : Int → Int) : Prop := ∃ tl ps er ea g0 g1 g2 g3 ns ne se od sk, MM h n th bl tl ps er ea eo ud g0 g1 g2 g3 ns ne se D ∧ MRX h n bf od rw ∧ h.1 (n + 13) = some (102, 1300, sk, am_N)
/-- what a call answers: a number, or what it throws, told by a code -/
def gm_an (c : Nat → Int) (r : Int ⊕ Nat) (th z : Int) : Prop := (∃ v, r = .inl v ∧ th = 0 ∧ z = v) ∨ ∃ k, r = .inr k ∧ th = c k
def gm_tx (c : Nat → Int) (A : Int ⊕ Nat → Prop) (th : Int) : Prop := ∃ k, A (.inr k) ∧ th = c k
/-- equal on all the cells of a row -/
def gm_eq8 (f g : Int → Int) : Prop := ∀ j, 0 ≤ j → j < 1528 → g j = f j
theorem gm_eq8.rf {f : Int → Int} : gm_eq8 f f := fun _ _ _ => rfl
theorem gm_eq8.tr {f g k : Int → Int} (a : gm_eq8 f g) (b : gm_eq8 g k) : gm_eq8 f k := fun j h0 h1 => (b j h0 h1).trans (a j h0 h1)
def gm_cp (f g : Int → Int) (k j : Int) : Int := if 0 ≤ j ∧ j < k then f j else g j
theorem gm_cp_0 (f g : Int → Int) : gm_cp f g 0 = g := by
  funext j
  exact if_neg (by omega)
theorem gm_cp_s (f g : Int → Int) {k : Int} (h : 0 ≤ k) : am_uI (gm_cp f g k) k (f k) = gm_cp f g (k + 1) := by
  funext j
  unfold am_uI gm_cp
  by_cases e : j = k
  · rw [if_pos e, if_pos (by omega), e]
  · rw [if_neg e]
    by_cases e2 : 0 ≤ j ∧ j < k
    · rw [if_pos e2, if_pos (by omega)]
    · rw [if_neg e2, if_neg (by omega)]
theorem gm_cp_8 (f g : Int → Int) : gm_eq8 f (gm_cp f g 1528) := fun j h0 h1 => if_pos ⟨h0, h1⟩
/-- a row laid to the others -/
def PU (ud : Int) (rw : Int → Int → Int) (D : Int → Int) (ud' : Int) (rw' : Int → Int → Int) : Prop := (ud < 8 ∧ ud' = ud + 1 ∧ gm_eq8 D (rw' ud) ∧ ∀ i, 0 ≤ i → i < ud → gm_eq8 (rw i) (rw' i)) ∨ (ud = 8 ∧ ud' = 8 ∧ gm_eq8 D (rw' 7) ∧ ∀ i, 0 ≤ i → i < 7 → gm_eq8 (rw (i + 1)) (rw' i))
def gm_uR (rw : Int → Int → Int) (k : Int) (f : Int → Int) (i : Int) : Int → Int := if i = k then f else rw i
theorem gm_uR_at (rw : Int → Int → Int) (k : Int) (f : Int → Int) : gm_uR rw k f k = f := if_pos rfl
theorem gm_uR_ne (rw : Int → Int → Int) {k i : Int} (f : Int → Int) (h : i ≠ k) : gm_uR rw k f i = rw i := if_neg h
theorem MRX.row {h h1 : AH} {n : Nat} {bf od : Int → Int} {rw : Int → Int → Int} (k : MRX h n bf od rw) {i : Int} (i0 : 0 ≤ i) (i1 : i < 8) {f : Int → Int} (e : h1.1 (n + 5 + i.toNat) = some (100, 1528, f, am_N)) (g : am_fr h h1 (n + 5 + i.toNat) (n + 5 + i.toNat + 1)) : MRX h1 n bf od (gm_uR rw i f) :=
  ⟨(g.2 _ (by omega)).trans k.1, (g.2 _ (by omega)).trans k.2.1, (g.2 _ (by omega)).trans k.2.2.1, fun j j0 j1 => by
    by_cases c : j = i
    · subst c; rw [gm_uR_at]; exact e
    · rw [gm_uR_ne _ _ c]; exact (g.2 _ (by omega)).trans (k.2.2.2 j j0 j1)⟩

set_option maxHeartbeats 1000000 in
theorem c_X9_countOf0 {w : am_w} {h : AH} {n : Nat} {th bl tl ps er ea eo ud g0 g1 g2 g3 ns ne se : Int} {D : Int → Int} (hm : MM h n th bl tl ps er ea eo ud g0 g1 g2 g3 ns ne se D) {p : Int} (p0 : 0 ≤ p) (p1 : p ≤ 6)  : AE w m_X9_countOf 2 [vr n, vi p] h (am_intp h (fun z => z = pN D p)) := by
  refine AE.of wf_X9_countOf (Nat.le_of_ble_eq_true rfl) (am_ok_ip) ?_
  obtain ⟨m0, m1⟩ := id hm
  refine q_blk (lv2 := [(0, vr n), (1, vi p)]) (st2 := [vr n]) kX9_countOf_0 rfl ?_
  refine q_gr eX9_countOf_1 fl_RX9_17 (Or.inr ⟨_, rfl⟩) m0 rfl ?_
  refine q_blk (lv2 := [(0, vr n), (1, vi p)]) (st2 := [vi p, vr (n + 2)]) kX9_countOf_4 rfl ?_
  refine q_Si (av := [vi p]) (st := [vr (n + 2)]) c_X9_at lk_RX9_35 (by decide) rfl rfl (Nat.le_of_ble_eq_true rfl) eX9_countOf_5 (fun z1 e2 => ?_)
  subst e2
  refine q_blk (lv2 := [(0, vr n), (1, vi p)]) (st2 := [vi ((66 + (27 * p)) + 1), vr (n + 2)]) kX9_countOf_8 rfl ?_
  refine q_ia eX9_countOf_10 m1 (by decide) (by omega) (by omega) (z := (pN D p)) (congrArg D (by omega)) ?_
  exact q_ri rfl eX9_countOf_11 ⟨(pN D p), rfl, rfl, rfl⟩

set_option maxHeartbeats 1000000 in
theorem c_X9_putCorner {w : am_w} {h : AH} {n : Nat} {th bl tl ps er ea eo ud g0 g1 g2 g3 ns ne se : Int} {D : Int → Int} (hm : MM h n th bl tl ps er ea eo ud g0 g1 g2 g3 ns ne se D) {p k x y : Int} (p0 : 0 ≤ p) (p1 : p < 6) (k0 : 0 ≤ k) (k1 : k ≤ pN D p) (n1 : pN D p < 12)  : AE w m_X9_putCorner 4 [vr n, vi p, vi k, vi x, vi y] h (am_unit (fun h1 => MM h1 n th bl tl ps er ea eo ud g0 g1 g2 g3 ns ne se (gm_ptc D p k x y) ∧ am_fr h h1 (n + 2) (n + 3))) := by
  refine AE.of wf_X9_putCorner (Nat.le_of_ble_eq_true rfl) (am_ok_v) ?_
  obtain ⟨m0, m1⟩ := id hm
  refine q_blk (lv2 := [(0, vr n), (1, vi p), (2, vi k), (3, vi x), (4, vi y)]) (st2 := [vi p]) kX9_putCorner_0 rfl ?_
  refine q_Si (av := [vi p]) (st := []) c_X9_at lk_RX9_35 (by decide) rfl rfl (Nat.le_of_ble_eq_true rfl) eX9_putCorner_1 (fun z1 e2 => ?_)
  subst e2
  refine q_blk (lv2 := [(0, vr n), (1, vi p), (2, vi k), (3, vi x), (4, vi y), (5, vi (66 + (27 * p)))]) (st2 := [vi p, vr n, vi 2]) kX9_putCorner_4 rfl ?_
  refine q_Vi (av := [vi p]) (st := [vi 2]) (c_X9_countOf0 hm (by omega) (by omega)) lk_RX9_39 (by decide) rfl rfl hm.ob ⟨_, rfl, rfl⟩ (Nat.le_of_ble_eq_true rfl) eX9_putCorner_9 (fun z3 e4 => ?_)
  subst e4
  refine q_blk (lv2 := [(0, vr n), (1, vi p), (2, vi k), (3, vi x), (4, vi y), (5, vi (66 + (27 * p))), (6, vi ((2 * (pN D p)) - 1))]) (st2 := []) kX9_putCorner_12 rfl ?_
  refine am_lp3 (I := fun (i : Int) (hh : AH) (E : Int → Int) => (2 * k - 1 ≤ i ∧ i ≤ 2 * pN D p - 1) ∧ am_fr h hh (n + 2) (n + 3) ∧ hh.1 (n + 2) = some (100, 1528, E, am_N) ∧ ∀ j, E j = if 69 + 27 * p + i + 3 ≤ j ∧ j < 69 + 27 * p + 2 * pN D p + 2 then D (j - 2) else D j) (μ := fun (i : Int) (hh : AH) (E : Int → Int) => (i + 1).toNat) (G := fun (i : Int) (hh : AH) (E : Int → Int) => AQ w m_X9_putCorner 4 17 [(0, vr n), (1, vi p), (2, vi k), (3, vi x), (4, vi y), (5, vi (66 + (27 * p))), (6, vi i)] [] hh (am_unit (fun h1 => MM h1 n th bl tl ps er ea eo ud g0 g1 g2 g3 ns ne se (gm_ptc D p k x y) ∧ am_fr h h1 (n + 2) (n + 3)))) ?_ ((2 * (pN D p)) - 1) h D (⟨⟨by omega, by omega⟩, am_fr.rf, m1, fun j => (if_neg (by omega)).symm⟩)
  intro i hh E hI6 ih5
  obtain ⟨⟨i0, i1⟩, hf9, hk9, hE⟩ := hI6
  have m0' := (hf9.2 n (by omega)).trans m0
  refine q_blk (lv2 := [(0, vr n), (1, vi p), (2, vi k), (3, vi x), (4, vi y), (5, vi (66 + (27 * p))), (6, vi i)]) (st2 := [vi (2 * k), vi i]) kX9_putCorner_17 rfl ?_
  refine AQ.ic_lt (tgt := 57) eX9_putCorner_22 (by decide) (by first | assumption | exact ⟨by omega, by omega⟩) (by first | assumption | exact ⟨by omega, by omega⟩) (fun br7 => ?_) (fun br7 => ?_)
  · skip
    refine q_blk (lv2 := [(0, vr n), (1, vi p), (2, vi k), (3, vi x), (4, vi y), (5, vi (66 + (27 * p))), (6, vi i)]) (st2 := [vr n]) kX9_putCorner_57 rfl ?_
    refine q_gr eX9_putCorner_58 fl_RX9_17 (Or.inr ⟨_, rfl⟩) m0' rfl ?_
    refine q_blk (lv2 := [(0, vr n), (1, vi p), (2, vi k), (3, vi x), (4, vi y), (5, vi (66 + (27 * p))), (6, vi i)]) (st2 := [vi x, vi (((66 + (27 * p)) + 3) + (2 * k)), vr (n + 2)]) kX9_putCorner_61 rfl ?_
    refine q_is eX9_putCorner_70 hk9 (by omega) (by omega) (fun h8 e9 => ?_)
    have k10 := (am_ne e9 n (by omega)).trans m0'
    have k11 := am_at e9
    refine q_blk (lv2 := [(0, vr n), (1, vi p), (2, vi k), (3, vi x), (4, vi y), (5, vi (66 + (27 * p))), (6, vi i)]) (st2 := [vr n]) kX9_putCorner_71 rfl ?_
    refine q_gr eX9_putCorner_72 fl_RX9_17 (Or.inr ⟨_, rfl⟩) k10 rfl ?_
    refine q_blk (lv2 := [(0, vr n), (1, vi p), (2, vi k), (3, vi x), (4, vi y), (5, vi (66 + (27 * p))), (6, vi i)]) (st2 := [vi y, vi ((((66 + (27 * p)) + 3) + (2 * k)) + 1), vr (n + 2)]) kX9_putCorner_75 rfl ?_
    refine q_is eX9_putCorner_87 k11 (by omega) (by omega) (fun h12 e13 => ?_)
    have k14 := (am_ne e13 n (by omega)).trans k10
    have k15 := am_at e13
    refine q_blk (lv2 := [(0, vr n), (1, vi p), (2, vi k), (3, vi x), (4, vi y), (5, vi (66 + (27 * p))), (6, vi i)]) (st2 := [vr n]) kX9_putCorner_88 rfl ?_
    refine q_gr eX9_putCorner_89 fl_RX9_17 (Or.inr ⟨_, rfl⟩) k14 rfl ?_
    refine q_blk (lv2 := [(0, vr n), (1, vi p), (2, vi k), (3, vi x), (4, vi y), (5, vi (66 + (27 * p))), (6, vi i)]) (st2 := [vi ((66 + (27 * p)) + 1), vr (n + 2), vi ((66 + (27 * p)) + 1), vr (n + 2)]) kX9_putCorner_92 rfl ?_
    refine q_ia eX9_putCorner_97 k15 (by decide) (by omega) (by omega) (z := ((am_uI (am_uI E (((66 + (27 * p)) + 3) + (2 * k)) x) ((((66 + (27 * p)) + 3) + (2 * k)) + 1) y) ((66 + (27 * p)) + 1))) rfl ?_
    refine q_blk (lv2 := [(0, vr n), (1, vi p), (2, vi k), (3, vi x), (4, vi y), (5, vi (66 + (27 * p))), (6, vi i)]) (st2 := [vi (((am_uI (am_uI E (((66 + (27 * p)) + 3) + (2 * k)) x) ((((66 + (27 * p)) + 3) + (2 * k)) + 1) y) ((66 + (27 * p)) + 1)) + 1), vi ((66 + (27 * p)) + 1), vr (n + 2)]) kX9_putCorner_98 rfl ?_
    refine q_is eX9_putCorner_100 k15 (by omega) (by omega) (fun h16 e17 => ?_)
    have k18 := (am_ne e17 n (by omega)).trans k14
    have k19 := am_at e17
    exact q_rv rfl eX9_putCorner_101 ⟨rfl, ⟨k18, by have q := k19; rw [gm_ptc_e hE (by omega) k0 (by omega) (by omega) (by omega)] at q; exact q⟩, (((hf9.tr (am_fr.st e9 (by omega) (by omega))).tr (am_fr.st e13 (by omega) (by omega))).tr (am_fr.st e17 (by omega) (by omega)))⟩
  · skip
    refine q_blk (lv2 := [(0, vr n), (1, vi p), (2, vi k), (3, vi x), (4, vi y), (5, vi (66 + (27 * p))), (6, vi i)]) (st2 := [vr n]) kX9_putCorner_25 rfl ?_
    refine q_gr eX9_putCorner_26 fl_RX9_17 (Or.inr ⟨_, rfl⟩) m0' rfl ?_
    refine q_blk (lv2 := [(0, vr n), (1, vi p), (2, vi k), (3, vi x), (4, vi y), (5, vi (66 + (27 * p))), (6, vi i)]) (st2 := [vr n, vi ((((66 + (27 * p)) + 3) + i) + 2), vr (n + 2)]) kX9_putCorner_29 rfl ?_
    refine q_gr eX9_putCorner_39 fl_RX9_17 (Or.inr ⟨_, rfl⟩) m0' rfl ?_
    refine q_blk (lv2 := [(0, vr n), (1, vi p), (2, vi k), (3, vi x), (4, vi y), (5, vi (66 + (27 * p))), (6, vi i)]) (st2 := [vi (((66 + (27 * p)) + 3) + i), vr (n + 2), vi ((((66 + (27 * p)) + 3) + i) + 2), vr (n + 2)]) kX9_putCorner_42 rfl ?_
    refine q_ia eX9_putCorner_49 hk9 (by decide) (by omega) (by omega) (z := (E (((66 + (27 * p)) + 3) + i))) rfl ?_
    refine q_is eX9_putCorner_50 hk9 (by omega) (by omega) (fun h20 e21 => ?_)
    have k22 := (am_ne e21 n (by omega)).trans m0'
    have k23 := am_at e21
    refine q_blk (lv2 := [(0, vr n), (1, vi p), (2, vi k), (3, vi x), (4, vi y), (5, vi (66 + (27 * p))), (6, vi (i + (-1)))]) (st2 := []) kX9_putCorner_51 rfl ?_
    refine q_goto (tgt := 17) eX9_putCorner_54 (by decide) ?_
    exact ih5 (i + (-1)) h20 (am_uI E ((((66 + (27 * p)) + 3) + i) + 2) (E (((66 + (27 * p)) + 3) + i))) (⟨⟨by omega, by omega⟩, hf9.tr (am_fr.st e21 (by omega) (by omega)), k23, gm_up1 hE (by omega) (by omega) (by omega)⟩) (by omega)

set_option maxHeartbeats 1000000 in
theorem c_X9_beginPolygon {w : am_w} {h : AH} {n : Nat} {th bl tl ps er ea eo ud g0 g1 g2 g3 ns ne se : Int} {D : Int → Int} (hm : MM h n th bl tl ps er ea eo ud g0 g1 g2 g3 ns ne se D) {pl x y : Int} (hd3 : 0 ≤ D 3 ∧ D 3 < 6)  : AE w m_X9_beginPolygon 5 [vr n, vi pl, vi x, vi y] h (am_unit (fun h1 => MM h1 n th bl tl ps er ea eo ud g0 g1 g2 g3 ns ne se (gm_stP D pl x y) ∧ am_fr h h1 (n + 2) (n + 3))) := by
  refine AE.of wf_X9_beginPolygon (Nat.le_of_ble_eq_true rfl) (am_ok_v) ?_
  obtain ⟨m0, m1⟩ := id hm
  refine q_blk (lv2 := [(0, vr n), (1, vi pl), (2, vi x), (3, vi y)]) (st2 := [vr n]) kX9_beginPolygon_0 rfl ?_
  refine q_gr eX9_beginPolygon_1 fl_RX9_17 (Or.inr ⟨_, rfl⟩) m0 rfl ?_
  refine q_blk (lv2 := [(0, vr n), (1, vi pl), (2, vi x), (3, vi y)]) (st2 := [vi 3, vr (n + 2)]) kX9_beginPolygon_4 rfl ?_
  refine q_ia eX9_beginPolygon_5 m1 (by decide) (by omega) (by omega) (z := (D 3)) rfl ?_
  refine q_Si (av := [vi (D 3)]) (st := []) c_X9_at lk_RX9_35 (by decide) rfl rfl (Nat.le_of_ble_eq_true rfl) eX9_beginPolygon_6 (fun z1 e2 => ?_)
  subst e2
  refine q_blk (lv2 := [(0, vr n), (1, vi pl), (2, vi x), (3, vi y), (4, vi (66 + (27 * (D 3))))]) (st2 := [vr n]) kX9_beginPolygon_9 rfl ?_
  refine q_gr eX9_beginPolygon_12 fl_RX9_17 (Or.inr ⟨_, rfl⟩) m0 rfl ?_
  refine q_blk (lv2 := [(0, vr n), (1, vi pl), (2, vi x), (3, vi y), (4, vi (66 + (27 * (D 3))))]) (st2 := [vi pl, vi ((66 + (27 * (D 3))) + 0), vr (n + 2)]) kX9_beginPolygon_15 rfl ?_
  refine q_is eX9_beginPolygon_20 m1 (by omega) (by omega) (fun h3 e4 => ?_)
  have k5 := (am_ne e4 n (by omega)).trans m0
  have k6 := am_at e4
  refine q_blk (lv2 := [(0, vr n), (1, vi pl), (2, vi x), (3, vi y), (4, vi (66 + (27 * (D 3))))]) (st2 := [vr n]) kX9_beginPolygon_21 rfl ?_
  refine q_gr eX9_beginPolygon_22 fl_RX9_17 (Or.inr ⟨_, rfl⟩) k5 rfl ?_
  refine q_blk (lv2 := [(0, vr n), (1, vi pl), (2, vi x), (3, vi y), (4, vi (66 + (27 * (D 3))))]) (st2 := [vi 0, vi ((66 + (27 * (D 3))) + 1), vr (n + 2)]) kX9_beginPolygon_25 rfl ?_
  refine q_is eX9_beginPolygon_30 k6 (by omega) (by omega) (fun h7 e8 => ?_)
  have k9 := (am_ne e8 n (by omega)).trans k5
  have k10 := am_at e8
  refine q_blk (lv2 := [(0, vr n), (1, vi pl), (2, vi x), (3, vi y), (4, vi (66 + (27 * (D 3))))]) (st2 := [vr n]) kX9_beginPolygon_31 rfl ?_
  refine q_gr eX9_beginPolygon_32 fl_RX9_17 (Or.inr ⟨_, rfl⟩) k9 rfl ?_
  refine q_blk (lv2 := [(0, vr n), (1, vi pl), (2, vi x), (3, vi y), (4, vi (66 + (27 * (D 3))))]) (st2 := [vi 0, vi ((66 + (27 * (D 3))) + 2), vr (n + 2)]) kX9_beginPolygon_35 rfl ?_
  refine q_is eX9_beginPolygon_40 k10 (by omega) (by omega) (fun h11 e12 => ?_)
  have k13 := (am_ne e12 n (by omega)).trans k9
  have k14 := am_at e12
  refine q_blk (lv2 := [(0, vr n), (1, vi pl), (2, vi x), (3, vi y), (4, vi (66 + (27 * (D 3))))]) (st2 := [vr n]) kX9_beginPolygon_41 rfl ?_
  refine q_gr eX9_beginPolygon_42 fl_RX9_17 (Or.inr ⟨_, rfl⟩) k13 rfl ?_
  refine q_blk (lv2 := [(0, vr n), (1, vi pl), (2, vi x), (3, vi y), (4, vi (66 + (27 * (D 3))))]) (st2 := [vi 3, vr (n + 2), vi 3, vr (n + 2)]) kX9_beginPolygon_45 rfl ?_
  refine q_ia eX9_beginPolygon_47 k14 (by decide) (by omega) (by omega) (z := ((am_uI (am_uI (am_uI D ((66 + (27 * (D 3))) + 0) pl) ((66 + (27 * (D 3))) + 1) 0) ((66 + (27 * (D 3))) + 2) 0) 3)) rfl ?_
  refine q_blk (lv2 := [(0, vr n), (1, vi pl), (2, vi x), (3, vi y), (4, vi (66 + (27 * (D 3))))]) (st2 := [vi (((am_uI (am_uI (am_uI D ((66 + (27 * (D 3))) + 0) pl) ((66 + (27 * (D 3))) + 1) 0) ((66 + (27 * (D 3))) + 2) 0) 3) + 1), vi 3, vr (n + 2)]) kX9_beginPolygon_48 rfl ?_
  refine q_is eX9_beginPolygon_50 k14 (by omega) (by omega) (fun h15 e16 => ?_)
  have k17 := (am_ne e16 n (by omega)).trans k13
  have k18 := am_at e16
  refine q_blk (lv2 := [(0, vr n), (1, vi pl), (2, vi x), (3, vi y), (4, vi (66 + (27 * (D 3))))]) (st2 := [vr n, vr n]) kX9_beginPolygon_51 rfl ?_
  have x4 : am_uI (am_uI (am_uI D ((66 + (27 * (D 3))) + 0) pl) ((66 + (27 * (D 3))) + 1) 0) ((66 + (27 * (D 3))) + 2) 0 3 = D 3 := by unfold am_uI; rw [if_neg (by omega), if_neg (by omega), if_neg (by omega)]
  obtain ⟨E9, hE9⟩ : ∃ q, q = am_uI (am_uI (am_uI (am_uI D (66 + 27 * D 3) pl) (67 + 27 * D 3) 0) (68 + 27 * D 3) 0) 3 (D 3 + 1) := ⟨_, rfl⟩
  rw [x4, show 66 + 27 * D 3 + 0 = 66 + 27 * D 3 by omega, show 66 + 27 * D 3 + 1 = 67 + 27 * D 3 by omega, show 66 + 27 * D 3 + 2 = 68 + 27 * D 3 by omega, ← hE9] at k18
  have y8 : E9 3 = D 3 + 1 := by rw [hE9]; exact am_uI_at _ _ _
  have y9 : pN E9 (D 3) = 0 := by rw [hE9]; unfold pN am_uI; rw [if_neg (by omega), if_neg (by omega), if_pos (by omega)]
  refine q_gr eX9_beginPolygon_53 fl_RX9_17 (Or.inr ⟨_, rfl⟩) k17 rfl ?_
  refine q_blk (lv2 := [(0, vr n), (1, vi pl), (2, vi x), (3, vi y), (4, vi (66 + (27 * (D 3))))]) (st2 := [vi 3, vr (n + 2), vr n]) kX9_beginPolygon_56 rfl ?_
  refine q_ia eX9_beginPolygon_57 k18 (by decide) (by omega) (by omega) (z := (E9 3)) rfl ?_
  refine q_blk (lv2 := [(0, vr n), (1, vi pl), (2, vi x), (3, vi y), (4, vi (66 + (27 * (D 3))))]) (st2 := [vi y, vi x, vi 0, vi ((E9 3) - 1), vr n]) kX9_beginPolygon_58 rfl ?_
  rw [show E9 3 - 1 = D 3 by omega]
  refine AQ.callVv (av := [vi (D 3), vi 0, vi x, vi y]) (st := []) (c_X9_putCorner ⟨k17, k18⟩ (p := D 3) (k := 0) (x := x) (y := y) (by omega) (by omega) (by omega) (by rw [y9]; decide) (by rw [y9]; decide)) lk_RX9_124 (by decide) rfl rfl ⟨_, _, _, k17⟩ ⟨_, rfl, rfl⟩ (Nat.le_of_ble_eq_true rfl) eX9_beginPolygon_63 (fun h21 e20 => ?_)
  obtain ⟨Mh21, Fh21⟩ := e20
  exact q_rv rfl eX9_beginPolygon_66 ⟨rfl, by rw [← gm_bgn_e hd3 pl x y]; unfold gm_bgn; rw [← hE9]; exact Mh21, am_fr.tr (am_fr.tr (am_fr.tr (am_fr.tr (am_fr.st e4 (by omega) (by omega)) (am_fr.st e8 (by omega) (by omega))) (am_fr.st e12 (by omega) (by omega))) (am_fr.st e16 (by omega) (by omega))) Fh21⟩

def TH (th z e : Int) : Prop := (z = 1 ∧ th = e) ∨ (z = 0 ∧ th = 0)
theorem TH.t {th e : Int} (h : TH th 1 e) : th = e := by unfold TH at h; omega
theorem TH.f {th e : Int} (h : TH th 0 e) : th = 0 := by unfold TH at h; omega
theorem am_ok_zz {P : Int → Prop} {Q : Int → AH → Prop} (hz : ∀ z, P z → z = 0 ∨ z = 1) : ∀ v h', am_int (fun z h1 => P z ∧ Q z h1) (.inl v) h' → am_okr (some .boolean) v := am_ok_z fun z h1 q => hz z q.1
set_option maxHeartbeats 1000000 in
theorem c_X9_fails {w : am_w} {h : AH} {n : Nat} {bl tl ps er ea eo ud g0 g1 g2 g3 ns ne se : Int} {D : Int → Int} (hm : MM h n 0 bl tl ps er ea eo ud g0 g1 g2 g3 ns ne se D) {c e : Int} (hc : c = 0 ∨ c = 1) (he : 1 ≤ e ∧ e ≤ 3)  : AE w m_X9_fails 1 [vr n, vi c, vi e] h (am_int (fun z h1 => am_b z (c = 1) ∧ (∃ th', TH th' z e ∧ MM h1 n th' bl tl ps er ea eo ud g0 g1 g2 g3 ns ne se D) ∧ am_fr h h1 n (n + 1))) := by
  refine AE.of wf_X9_fails (Nat.le_of_ble_eq_true rfl) (am_ok_z (fun z h1 q => am_bz q.1)) ?_
  obtain ⟨m0, m1⟩ := id hm
  refine q_blk (lv2 := [(0, vr n), (1, vi c), (2, vi e)]) (st2 := [vi c]) kX9_fails_0 rfl ?_
  refine AQ.if_eq (tgt := 16) eX9_fails_1 (by decide) (by first | assumption | exact ⟨by omega, by omega⟩) (fun br1 => ?_) (fun br1 => ?_)
  · skip
    refine q_blk (lv2 := [(0, vr n), (1, vi c), (2, vi e)]) (st2 := [vr n]) kX9_fails_16 rfl ?_
    refine q_gi eX9_fails_17 fl_RX9_32 (Or.inl rfl) m0 (z := 0) rfl ?_
    refine AQ.of (AS.if_eq_t (tgt := 27) eX9_fails_20 (by decide) ⟨by decide, by decide⟩ (by decide)) ?_
    refine q_blk (lv2 := [(0, vr n), (1, vi c), (2, vi e)]) (st2 := [vi 0]) kX9_fails_27 rfl ?_
    exact q_rz rfl eX9_fails_28 (by decide) ⟨0, rfl, Or.inr ⟨rfl, by omega⟩, ⟨0, Or.inr ⟨rfl, rfl⟩, ⟨m0, m1⟩⟩, am_fr.rf⟩
  · skip
    refine q_blk (lv2 := [(0, vr n), (1, vi c), (2, vi e)]) (st2 := [vr n]) kX9_fails_4 rfl ?_
    refine q_gi eX9_fails_5 fl_RX9_32 (Or.inl rfl) m0 (z := 0) rfl ?_
    refine AQ.of (AS.if_ne_f eX9_fails_8 ⟨by decide, by decide⟩ (by decide) (by decide)) ?_
    refine q_blk (lv2 := [(0, vr n), (1, vi c), (2, vi e)]) (st2 := [vi e, vr n]) kX9_fails_11 rfl ?_
    refine q_pi eX9_fails_13 fl_RX9_32 (fun q hq => by cases hq; exact Or.inl rfl) (Or.inl rfl) m0 (Nat.le_of_ble_eq_true rfl) (l2 := [e, 0, bl, tl, ps, er, ea, eo, 0, 0, 0, ud, g0, g1, g2, g3, ns, ne, se, 0]) rfl (fun h2 e3 => ?_)
    have k4 := am_at e3
    have k5 := (am_ne e3 (n + 2) (by omega)).trans m1
    refine q_blk (lv2 := [(0, vr n), (1, vi c), (2, vi e)]) (st2 := [vr n]) kX9_fails_16 rfl ?_
    refine q_gi eX9_fails_17 fl_RX9_32 (Or.inl rfl) k4 (z := e) rfl ?_
    refine AQ.if_eq (tgt := 27) eX9_fails_20 (by decide) (by first | assumption | exact ⟨by omega, by omega⟩) (fun br6 => ?_) (fun br6 => ?_)
    · skip
      refine q_blk (lv2 := [(0, vr n), (1, vi c), (2, vi e)]) (st2 := [vi 0]) kX9_fails_27 rfl ?_
      exact q_rz rfl eX9_fails_28 (by decide) ⟨0, rfl, (by omega), (by omega), (by omega)⟩
    · skip
      refine q_blk (lv2 := [(0, vr n), (1, vi c), (2, vi e)]) (st2 := [vi 1]) kX9_fails_23 rfl ?_
      refine q_goto (tgt := 28) eX9_fails_24 (by decide) ?_
      exact q_rz rfl eX9_fails_28 (by decide) ⟨1, rfl, Or.inl ⟨rfl, by omega⟩, ⟨e, Or.inl ⟨rfl, rfl⟩, ⟨k4, k5⟩⟩, am_fr.st e3 (by omega) (by omega)⟩

set_option maxHeartbeats 1000000 in
theorem c_X9_noPolygon {w : am_w} {h : AH} {n : Nat} {bl tl ps er ea eo ud g0 g1 g2 g3 ns ne se : Int} {D : Int → Int} (hm : MM h n 0 bl tl ps er ea eo ud g0 g1 g2 g3 ns ne se D) (hD : VD D) {p : Int} (r_p : am_r p)  : AE w m_X9_noPolygon 2 [vr n, vi p] h (am_int (fun z h1 => am_b z (¬ (0 ≤ p ∧ p < D 3)) ∧ (∃ th', TH th' z 1 ∧ MM h1 n th' bl tl ps er ea eo ud g0 g1 g2 g3 ns ne se D) ∧ am_fr h h1 n (n + 1))) := by
  refine AE.of wf_X9_noPolygon (Nat.le_of_ble_eq_true rfl) (am_ok_z (fun z h1 q => am_bz q.1)) ?_
  obtain ⟨m0, m1⟩ := id hm
  have d0 := hD.1
  have d1 := hD.2.1
  have d2 := hD.2.2.1
  have d3 := hD.2.2.2.1
  refine q_blk (lv2 := [(0, vr n), (1, vi p)]) (st2 := [vr n, vi 0, vi p, vr n]) kX9_noPolygon_0 rfl ?_
  refine q_gr eX9_noPolygon_4 fl_RX9_17 (Or.inr ⟨_, rfl⟩) m0 rfl ?_
  refine q_blk (lv2 := [(0, vr n), (1, vi p)]) (st2 := [vi 3, vr (n + 2), vi 0, vi p, vr n]) kX9_noPolygon_7 rfl ?_
  refine q_ia eX9_noPolygon_8 m1 (by decide) (by omega) (by omega) (z := (D 3)) rfl ?_
  refine q_blk (lv2 := [(0, vr n), (1, vi p)]) (st2 := [vi ((D 3) - 1), vi 0, vi p, vr n]) kX9_noPolygon_9 rfl ?_
  refine q_Si (av := [vi p, vi 0, vi ((D 3) - 1)]) (st := [vr n]) (c_X9_in (by first | assumption | exact ⟨by omega, by omega⟩) (by first | assumption | exact ⟨by omega, by omega⟩) (by first | assumption | exact ⟨by omega, by omega⟩)) lk_RX9_57 (by decide) rfl rfl (Nat.le_of_ble_eq_true rfl) eX9_noPolygon_11 (fun z1 e2 => ?_)
  rcases e2 with ⟨rfl, e2⟩ | ⟨rfl, e2⟩
  · skip
    refine AQ.of (AS.if_ne_t (tgt := 21) eX9_noPolygon_14 (by decide) ⟨by decide, by decide⟩ (by decide)) ?_
    refine q_blk (lv2 := [(0, vr n), (1, vi p)]) (st2 := [vi 0, vr n]) kX9_noPolygon_21 rfl ?_
    refine q_blk (lv2 := [(0, vr n), (1, vi p)]) (st2 := [vi 1, vi 0, vr n]) kX9_noPolygon_22 rfl ?_
    refine AQ.callVi (av := [vi 0, vi 1]) (st := []) (c_X9_fails hm (c := 0) (e := 1) (by decide) (by decide)) lk_RX9_241 (by decide) rfl rfl hm.ob ⟨_, rfl, rfl⟩ (Nat.le_of_ble_eq_true rfl) eX9_noPolygon_23 (fun z3 h5 e4 => ?_)
    rcases e4 with ⟨⟨rfl, Bh5⟩ | ⟨rfl, Bh5⟩, ⟨thh5, Th5, Mh5⟩, Fh5⟩
    · skip
      obtain rfl := Th5.t
      have Vh5 : am_fr h h5 n (n + 14) := am_fr.mo Fh5 (by omega) (by omega)
      obtain ⟨m0h5, m1h5⟩ := id Mh5
      exact q_rz rfl eX9_noPolygon_26 (by decide) ⟨1, rfl, Or.inl ⟨rfl, by omega⟩, ⟨1, Or.inl ⟨rfl, rfl⟩, Mh5⟩, Fh5⟩
    · skip
      obtain rfl := Th5.f
      have Vh5 : am_fr h h5 n (n + 14) := am_fr.mo Fh5 (by omega) (by omega)
      obtain ⟨m0h5, m1h5⟩ := id Mh5
      exact q_rz rfl eX9_noPolygon_26 (by decide) ⟨0, rfl, Or.inr ⟨rfl, by omega⟩, ⟨0, Or.inr ⟨rfl, rfl⟩, Mh5⟩, Fh5⟩
  · skip
    refine AQ.of (AS.if_ne_f eX9_noPolygon_14 ⟨by decide, by decide⟩ (by decide) (by decide)) ?_
    refine q_blk (lv2 := [(0, vr n), (1, vi p)]) (st2 := [vi 1, vr n]) kX9_noPolygon_17 rfl ?_
    refine q_goto (tgt := 22) eX9_noPolygon_18 (by decide) ?_
    refine q_blk (lv2 := [(0, vr n), (1, vi p)]) (st2 := [vi 1, vi 1, vr n]) kX9_noPolygon_22 rfl ?_
    refine AQ.callVi (av := [vi 1, vi 1]) (st := []) (c_X9_fails hm (c := 1) (e := 1) (by decide) (by decide)) lk_RX9_241 (by decide) rfl rfl hm.ob ⟨_, rfl, rfl⟩ (Nat.le_of_ble_eq_true rfl) eX9_noPolygon_23 (fun z6 h8 e7 => ?_)
    rcases e7 with ⟨⟨rfl, Bh8⟩ | ⟨rfl, Bh8⟩, ⟨thh8, Th8, Mh8⟩, Fh8⟩
    · skip
      obtain rfl := Th8.t
      have Vh8 : am_fr h h8 n (n + 14) := am_fr.mo Fh8 (by omega) (by omega)
      obtain ⟨m0h8, m1h8⟩ := id Mh8
      exact q_rz rfl eX9_noPolygon_26 (by decide) ⟨1, rfl, Or.inl ⟨rfl, by omega⟩, ⟨1, Or.inl ⟨rfl, rfl⟩, Mh8⟩, Fh8⟩
    · skip
      obtain rfl := Th8.f
      have Vh8 : am_fr h h8 n (n + 14) := am_fr.mo Fh8 (by omega) (by omega)
      obtain ⟨m0h8, m1h8⟩ := id Mh8
      exact q_rz rfl eX9_noPolygon_26 (by decide) ⟨0, rfl, Or.inr ⟨rfl, by omega⟩, ⟨0, Or.inr ⟨rfl, rfl⟩, Mh8⟩, Fh8⟩

set_option maxHeartbeats 1000000 in
theorem c_X9_noPoint {w : am_w} {h : AH} {n : Nat} {bl tl ps er ea eo ud g0 g1 g2 g3 ns ne se : Int} {D : Int → Int} (hm : MM h n 0 bl tl ps er ea eo ud g0 g1 g2 g3 ns ne se D) (hD : VD D) {x y e : Int} (r_x : am_r x) (r_y : am_r y) (he : 1 ≤ e ∧ e ≤ 3)  : AE w m_X9_noPoint 2 [vr n, vi x, vi y, vi e] h (am_int (fun z h1 => am_b z (¬ ((0 ≤ x ∧ x ≤ D 0) ∧ (0 ≤ y ∧ y ≤ D 1))) ∧ (∃ th', TH th' z e ∧ MM h1 n th' bl tl ps er ea eo ud g0 g1 g2 g3 ns ne se D) ∧ am_fr h h1 n (n + 1))) := by
  refine AE.of wf_X9_noPoint (Nat.le_of_ble_eq_true rfl) (am_ok_z (fun z h1 q => am_bz q.1)) ?_
  obtain ⟨m0, m1⟩ := id hm
  have d0 := hD.1
  have d1 := hD.2.1
  have d2 := hD.2.2.1
  have d3 := hD.2.2.2.1
  refine q_blk (lv2 := [(0, vr n), (1, vi x), (2, vi y), (3, vi e)]) (st2 := [vr n, vi 0, vi x, vr n]) kX9_noPoint_0 rfl ?_
  refine q_gr eX9_noPoint_4 fl_RX9_17 (Or.inr ⟨_, rfl⟩) m0 rfl ?_
  refine q_blk (lv2 := [(0, vr n), (1, vi x), (2, vi y), (3, vi e)]) (st2 := [vi 0, vr (n + 2), vi 0, vi x, vr n]) kX9_noPoint_7 rfl ?_
  refine q_ia eX9_noPoint_8 m1 (by decide) (by omega) (by omega) (z := (D 0)) rfl ?_
  refine q_Si (av := [vi x, vi 0, vi (D 0)]) (st := [vr n]) (c_X9_in (by first | assumption | exact ⟨by omega, by omega⟩) (by first | assumption | exact ⟨by omega, by omega⟩) (by first | assumption | exact ⟨by omega, by omega⟩)) lk_RX9_57 (by decide) rfl rfl (Nat.le_of_ble_eq_true rfl) eX9_noPoint_9 (fun z1 e2 => ?_)
  rcases e2 with ⟨rfl, e2⟩ | ⟨rfl, e2⟩
  · skip
    refine AQ.of (AS.if_eq_f eX9_noPoint_12 ⟨by decide, by decide⟩ (by decide) (by decide)) ?_
    refine q_blk (lv2 := [(0, vr n), (1, vi x), (2, vi y), (3, vi e)]) (st2 := [vr n, vi 0, vi y, vr n]) kX9_noPoint_15 rfl ?_
    refine q_gr eX9_noPoint_18 fl_RX9_17 (Or.inr ⟨_, rfl⟩) m0 rfl ?_
    refine q_blk (lv2 := [(0, vr n), (1, vi x), (2, vi y), (3, vi e)]) (st2 := [vi 1, vr (n + 2), vi 0, vi y, vr n]) kX9_noPoint_21 rfl ?_
    refine q_ia eX9_noPoint_22 m1 (by decide) (by omega) (by omega) (z := (D 1)) rfl ?_
    refine q_Si (av := [vi y, vi 0, vi (D 1)]) (st := [vr n]) (c_X9_in (by first | assumption | exact ⟨by omega, by omega⟩) (by first | assumption | exact ⟨by omega, by omega⟩) (by first | assumption | exact ⟨by omega, by omega⟩)) lk_RX9_57 (by decide) rfl rfl (Nat.le_of_ble_eq_true rfl) eX9_noPoint_23 (fun z3 e4 => ?_)
    rcases e4 with ⟨rfl, e4⟩ | ⟨rfl, e4⟩
    · skip
      refine AQ.of (AS.if_ne_t (tgt := 33) eX9_noPoint_26 (by decide) ⟨by decide, by decide⟩ (by decide)) ?_
      refine q_blk (lv2 := [(0, vr n), (1, vi x), (2, vi y), (3, vi e)]) (st2 := [vi 0, vr n]) kX9_noPoint_33 rfl ?_
      refine q_blk (lv2 := [(0, vr n), (1, vi x), (2, vi y), (3, vi e)]) (st2 := [vi e, vi 0, vr n]) kX9_noPoint_34 rfl ?_
      refine AQ.callVi (av := [vi 0, vi e]) (st := []) (c_X9_fails hm (c := 0) (e := e) (by decide) (by omega)) lk_RX9_241 (by decide) rfl rfl hm.ob ⟨_, rfl, rfl⟩ (Nat.le_of_ble_eq_true rfl) eX9_noPoint_35 (fun z5 h7 e6 => ?_)
      rcases e6 with ⟨⟨rfl, Bh7⟩ | ⟨rfl, Bh7⟩, ⟨thh7, Th7, Mh7⟩, Fh7⟩
      · skip
        obtain rfl := Th7.t
        have Vh7 : am_fr h h7 n (n + 14) := am_fr.mo Fh7 (by omega) (by omega)
        obtain ⟨m0h7, m1h7⟩ := id Mh7
        exact q_rz rfl eX9_noPoint_38 (by decide) ⟨1, rfl, Or.inl ⟨rfl, by omega⟩, ⟨_, Or.inl ⟨rfl, rfl⟩, Mh7⟩, Fh7⟩
      · skip
        obtain rfl := Th7.f
        have Vh7 : am_fr h h7 n (n + 14) := am_fr.mo Fh7 (by omega) (by omega)
        obtain ⟨m0h7, m1h7⟩ := id Mh7
        exact q_rz rfl eX9_noPoint_38 (by decide) ⟨0, rfl, Or.inr ⟨rfl, by omega⟩, ⟨0, Or.inr ⟨rfl, rfl⟩, Mh7⟩, Fh7⟩
    · skip
      refine AQ.of (AS.if_ne_f eX9_noPoint_26 ⟨by decide, by decide⟩ (by decide) (by decide)) ?_
      refine q_blk (lv2 := [(0, vr n), (1, vi x), (2, vi y), (3, vi e)]) (st2 := [vi 1, vr n]) kX9_noPoint_29 rfl ?_
      refine q_goto (tgt := 34) eX9_noPoint_30 (by decide) ?_
      refine q_blk (lv2 := [(0, vr n), (1, vi x), (2, vi y), (3, vi e)]) (st2 := [vi e, vi 1, vr n]) kX9_noPoint_34 rfl ?_
      refine AQ.callVi (av := [vi 1, vi e]) (st := []) (c_X9_fails hm (c := 1) (e := e) (by decide) (by omega)) lk_RX9_241 (by decide) rfl rfl hm.ob ⟨_, rfl, rfl⟩ (Nat.le_of_ble_eq_true rfl) eX9_noPoint_35 (fun z8 h10 e9 => ?_)
      rcases e9 with ⟨⟨rfl, Bh10⟩ | ⟨rfl, Bh10⟩, ⟨thh10, Th10, Mh10⟩, Fh10⟩
      · skip
        obtain rfl := Th10.t
        have Vh10 : am_fr h h10 n (n + 14) := am_fr.mo Fh10 (by omega) (by omega)
        obtain ⟨m0h10, m1h10⟩ := id Mh10
        exact q_rz rfl eX9_noPoint_38 (by decide) ⟨1, rfl, Or.inl ⟨rfl, by omega⟩, ⟨_, Or.inl ⟨rfl, rfl⟩, Mh10⟩, Fh10⟩
      · skip
        obtain rfl := Th10.f
        have Vh10 : am_fr h h10 n (n + 14) := am_fr.mo Fh10 (by omega) (by omega)
        obtain ⟨m0h10, m1h10⟩ := id Mh10
        exact q_rz rfl eX9_noPoint_38 (by decide) ⟨0, rfl, Or.inr ⟨rfl, by omega⟩, ⟨0, Or.inr ⟨rfl, rfl⟩, Mh10⟩, Fh10⟩
  · skip
    refine AQ.of (AS.if_eq_t (tgt := 29) eX9_noPoint_12 (by decide) ⟨by decide, by decide⟩ (by decide)) ?_
    refine q_blk (lv2 := [(0, vr n), (1, vi x), (2, vi y), (3, vi e)]) (st2 := [vi 1, vr n]) kX9_noPoint_29 rfl ?_
    refine q_goto (tgt := 34) eX9_noPoint_30 (by decide) ?_
    refine q_blk (lv2 := [(0, vr n), (1, vi x), (2, vi y), (3, vi e)]) (st2 := [vi e, vi 1, vr n]) kX9_noPoint_34 rfl ?_
    refine AQ.callVi (av := [vi 1, vi e]) (st := []) (c_X9_fails hm (c := 1) (e := e) (by decide) (by omega)) lk_RX9_241 (by decide) rfl rfl hm.ob ⟨_, rfl, rfl⟩ (Nat.le_of_ble_eq_true rfl) eX9_noPoint_35 (fun z11 h13 e12 => ?_)
    rcases e12 with ⟨⟨rfl, Bh13⟩ | ⟨rfl, Bh13⟩, ⟨thh13, Th13, Mh13⟩, Fh13⟩
    · skip
      obtain rfl := Th13.t
      have Vh13 : am_fr h h13 n (n + 14) := am_fr.mo Fh13 (by omega) (by omega)
      obtain ⟨m0h13, m1h13⟩ := id Mh13
      exact q_rz rfl eX9_noPoint_38 (by decide) ⟨1, rfl, Or.inl ⟨rfl, by omega⟩, ⟨_, Or.inl ⟨rfl, rfl⟩, Mh13⟩, Fh13⟩
    · skip
      obtain rfl := Th13.f
      have Vh13 : am_fr h h13 n (n + 14) := am_fr.mo Fh13 (by omega) (by omega)
      obtain ⟨m0h13, m1h13⟩ := id Mh13
      exact q_rz rfl eX9_noPoint_38 (by decide) ⟨0, rfl, Or.inr ⟨rfl, by omega⟩, ⟨0, Or.inr ⟨rfl, rfl⟩, Mh13⟩, Fh13⟩

set_option maxHeartbeats 1000000 in
theorem c_X9_noClosed {w : am_w} {h : AH} {n : Nat} {bl tl ps er ea eo ud g0 g1 g2 g3 ns ne se : Int} {D : Int → Int} (hm : MM h n 0 bl tl ps er ea eo ud g0 g1 g2 g3 ns ne se D) (hD : VD D) {p : Int} (r_p : am_r p)  : AE w m_X9_noClosed 3 [vr n, vi p] h (am_int (fun z h1 => am_b z (¬ ((0 ≤ p ∧ p < D 3) ∧ pC D p = 1)) ∧ (∃ th', ((z = 0 ∧ th' = 0) ∨ (z = 1 ∧ th' = 1 ∧ ¬ (0 ≤ p ∧ p < D 3)) ∨ (z = 1 ∧ th' = 2 ∧ (0 ≤ p ∧ p < D 3) ∧ pC D p = 0)) ∧ MM h1 n th' bl tl ps er ea eo ud g0 g1 g2 g3 ns ne se D) ∧ am_fr h h1 n (n + 1))) := by
  refine AE.of wf_X9_noClosed (Nat.le_of_ble_eq_true rfl) (am_ok_z (fun z h1 q => am_bz q.1)) ?_
  obtain ⟨m0, m1⟩ := id hm
  have d0 := hD.1
  have d1 := hD.2.1
  have d2 := hD.2.2.1
  have d3 := hD.2.2.2.1
  refine q_blk (lv2 := [(0, vr n), (1, vi p)]) (st2 := [vi p, vr n]) kX9_noClosed_0 rfl ?_
  refine AQ.callVi (av := [vi p]) (st := []) (c_X9_noPolygon hm hD (by first | assumption | exact ⟨by omega, by omega⟩)) lk_RX9_300 (by decide) rfl rfl hm.ob ⟨_, rfl, rfl⟩ (Nat.le_of_ble_eq_true rfl) eX9_noClosed_2 (fun z1 h3 e2 => ?_)
  rcases e2 with ⟨⟨rfl, Bh3⟩ | ⟨rfl, Bh3⟩, ⟨thh3, Th3, Mh3⟩, Fh3⟩
  · skip
    obtain rfl := Th3.t
    have Vh3 : am_fr h h3 n (n + 14) := am_fr.mo Fh3 (by omega) (by omega)
    obtain ⟨m0h3, m1h3⟩ := id Mh3
    refine AQ.of (AS.if_ne_t (tgt := 29) eX9_noClosed_5 (by decide) ⟨by decide, by decide⟩ (by decide)) ?_
    refine q_blk (lv2 := [(0, vr n), (1, vi p)]) (st2 := [vi 1]) kX9_noClosed_29 rfl ?_
    refine q_goto (tgt := 34) eX9_noClosed_30 (by decide) ?_
    exact q_rz rfl eX9_noClosed_34 (by decide) ⟨1, rfl, Or.inl ⟨rfl, by omega⟩, ⟨1, Or.inr (Or.inl ⟨rfl, rfl, by omega⟩), Mh3⟩, Fh3⟩
  · skip
    obtain rfl := Th3.f
    have Vh3 : am_fr h h3 n (n + 14) := am_fr.mo Fh3 (by omega) (by omega)
    obtain ⟨m0h3, m1h3⟩ := id Mh3
    refine AQ.of (AS.if_ne_f eX9_noClosed_5 ⟨by decide, by decide⟩ (by decide) (by decide)) ?_
    have hcl := hD.cl (p := p) (by omega) (by omega)
    refine q_blk (lv2 := [(0, vr n), (1, vi p)]) (st2 := [vi p, vr n, vr n]) kX9_noClosed_8 rfl ?_
    refine q_Vi (av := [vi p]) (st := [vr n]) (c_X9_isClosed Mh3 hD (by omega) (by omega)) lk_RX9_42 (by decide) rfl rfl Mh3.ob ⟨_, rfl, rfl⟩ (Nat.le_of_ble_eq_true rfl) eX9_noClosed_11 (fun z4 e5 => ?_)
    rcases e5 with ⟨rfl, e5⟩ | ⟨rfl, e5⟩
    · skip
      refine AQ.of (AS.if_ne_t (tgt := 21) eX9_noClosed_14 (by decide) ⟨by decide, by decide⟩ (by decide)) ?_
      refine q_blk (lv2 := [(0, vr n), (1, vi p)]) (st2 := [vi 0, vr n]) kX9_noClosed_21 rfl ?_
      refine q_blk (lv2 := [(0, vr n), (1, vi p)]) (st2 := [vi 2, vi 0, vr n]) kX9_noClosed_22 rfl ?_
      refine AQ.callVi (av := [vi 0, vi 2]) (st := []) (c_X9_fails Mh3 (c := 0) (e := 2) (by decide) (by omega)) lk_RX9_241 (by decide) rfl rfl Mh3.ob ⟨_, rfl, rfl⟩ (Nat.le_of_ble_eq_true rfl) eX9_noClosed_23 (fun z6 h8 e7 => ?_)
      rcases e7 with ⟨⟨rfl, Bh8⟩ | ⟨rfl, Bh8⟩, ⟨thh8, Th8, Mh8⟩, Fh8⟩
      · skip
        obtain rfl := Th8.t
        have Vh8 : am_fr h h8 n (n + 14) := am_fr.tr Vh3 (am_fr.mo Fh8 (by omega) (by omega))
        obtain ⟨m0h8, m1h8⟩ := id Mh8
        refine AQ.of (AS.if_eq_f eX9_noClosed_26 ⟨by decide, by decide⟩ (by decide) (by decide)) ?_
        refine q_blk (lv2 := [(0, vr n), (1, vi p)]) (st2 := [vi 1]) kX9_noClosed_29 rfl ?_
        refine q_goto (tgt := 34) eX9_noClosed_30 (by decide) ?_
        exact q_rz rfl eX9_noClosed_34 (by decide) ⟨1, rfl, Or.inl ⟨rfl, by omega⟩, ⟨2, Or.inr (Or.inr ⟨rfl, rfl, by omega, by omega⟩), Mh8⟩, (am_fr.tr Fh3 Fh8)⟩
      · skip
        obtain rfl := Th8.f
        have Vh8 : am_fr h h8 n (n + 14) := am_fr.tr Vh3 (am_fr.mo Fh8 (by omega) (by omega))
        obtain ⟨m0h8, m1h8⟩ := id Mh8
        refine AQ.of (AS.if_eq_t (tgt := 33) eX9_noClosed_26 (by decide) ⟨by decide, by decide⟩ (by decide)) ?_
        refine q_blk (lv2 := [(0, vr n), (1, vi p)]) (st2 := [vi 0]) kX9_noClosed_33 rfl ?_
        exact q_rz rfl eX9_noClosed_34 (by decide) ⟨0, rfl, Or.inr ⟨rfl, by omega⟩, ⟨0, Or.inl ⟨rfl, rfl⟩, Mh8⟩, (am_fr.tr Fh3 Fh8)⟩
    · skip
      refine AQ.of (AS.if_ne_f eX9_noClosed_14 ⟨by decide, by decide⟩ (by decide) (by decide)) ?_
      refine q_blk (lv2 := [(0, vr n), (1, vi p)]) (st2 := [vi 1, vr n]) kX9_noClosed_17 rfl ?_
      refine q_goto (tgt := 22) eX9_noClosed_18 (by decide) ?_
      refine q_blk (lv2 := [(0, vr n), (1, vi p)]) (st2 := [vi 2, vi 1, vr n]) kX9_noClosed_22 rfl ?_
      refine AQ.callVi (av := [vi 1, vi 2]) (st := []) (c_X9_fails Mh3 (c := 1) (e := 2) (by decide) (by omega)) lk_RX9_241 (by decide) rfl rfl Mh3.ob ⟨_, rfl, rfl⟩ (Nat.le_of_ble_eq_true rfl) eX9_noClosed_23 (fun z9 h11 e10 => ?_)
      rcases e10 with ⟨⟨rfl, Bh11⟩ | ⟨rfl, Bh11⟩, ⟨thh11, Th11, Mh11⟩, Fh11⟩
      · skip
        obtain rfl := Th11.t
        have Vh11 : am_fr h h11 n (n + 14) := am_fr.tr Vh3 (am_fr.mo Fh11 (by omega) (by omega))
        obtain ⟨m0h11, m1h11⟩ := id Mh11
        refine AQ.of (AS.if_eq_f eX9_noClosed_26 ⟨by decide, by decide⟩ (by decide) (by decide)) ?_
        refine q_blk (lv2 := [(0, vr n), (1, vi p)]) (st2 := [vi 1]) kX9_noClosed_29 rfl ?_
        refine q_goto (tgt := 34) eX9_noClosed_30 (by decide) ?_
        exact q_rz rfl eX9_noClosed_34 (by decide) ⟨1, rfl, Or.inl ⟨rfl, by omega⟩, ⟨2, Or.inr (Or.inr ⟨rfl, rfl, by omega, by omega⟩), Mh11⟩, (am_fr.tr Fh3 Fh11)⟩
      · skip
        obtain rfl := Th11.f
        have Vh11 : am_fr h h11 n (n + 14) := am_fr.tr Vh3 (am_fr.mo Fh11 (by omega) (by omega))
        obtain ⟨m0h11, m1h11⟩ := id Mh11
        refine AQ.of (AS.if_eq_t (tgt := 33) eX9_noClosed_26 (by decide) ⟨by decide, by decide⟩ (by decide)) ?_
        refine q_blk (lv2 := [(0, vr n), (1, vi p)]) (st2 := [vi 0]) kX9_noClosed_33 rfl ?_
        exact q_rz rfl eX9_noClosed_34 (by decide) ⟨0, rfl, Or.inr ⟨rfl, by omega⟩, ⟨0, Or.inl ⟨rfl, rfl⟩, Mh11⟩, (am_fr.tr Fh3 Fh11)⟩
