/-! CornerClaims$Scorer. -/
theorem am_lp5 {A B C E F : Type} {I : A → B → C → E → F → Prop} {G : A → B → C → E → F → Prop} (μ : A → B → C → E → F → Nat) (hs : ∀ a b c e f, I a b c e f → (∀ a' b' c' e' f', I a' b' c' e' f' → μ a' b' c' e' f' < μ a b c e f → G a' b' c' e' f') → G a b c e f) (a : A) (b : B) (c : C) (e : E) (f : F) (h : I a b c e f) : G a b c e f :=
  am_lp1 (I := fun q : A × B × C × E × F => I q.1 q.2.1 q.2.2.1 q.2.2.2.1 q.2.2.2.2) (G := fun q : A × B × C × E × F => G q.1 q.2.1 q.2.2.1 q.2.2.2.1 q.2.2.2.2) (fun q => μ q.1 q.2.1 q.2.2.1 q.2.2.2.1 q.2.2.2.2) (fun q hI k => hs q.1 q.2.1 q.2.2.1 q.2.2.2.1 q.2.2.2.2 hI fun a' b' c' e' f' => k (a', b', c', e', f')) (a, b, c, e, f) h
theorem am_lp6 {A B C E F J : Type} {I : A → B → C → E → F → J → Prop} {G : A → B → C → E → F → J → Prop} (μ : A → B → C → E → F → J → Nat) (hs : ∀ a b c e f j, I a b c e f j → (∀ a' b' c' e' f' j', I a' b' c' e' f' j' → μ a' b' c' e' f' j' < μ a b c e f j → G a' b' c' e' f' j') → G a b c e f j) (a : A) (b : B) (c : C) (e : E) (f : F) (j : J) (h : I a b c e f j) : G a b c e f j :=
  am_lp1 (I := fun q : A × B × C × E × F × J => I q.1 q.2.1 q.2.2.1 q.2.2.2.1 q.2.2.2.2.1 q.2.2.2.2.2) (G := fun q : A × B × C × E × F × J => G q.1 q.2.1 q.2.2.1 q.2.2.2.1 q.2.2.2.2.1 q.2.2.2.2.2) (fun q => μ q.1 q.2.1 q.2.2.1 q.2.2.2.1 q.2.2.2.2.1 q.2.2.2.2.2) (fun q hI k => hs q.1 q.2.1 q.2.2.1 q.2.2.2.1 q.2.2.2.2.1 q.2.2.2.2.2 hI fun a' b' c' e' f' j' => k (a', b', c', e', f', j')) (a, b, c, e, f, j) h
def gm_op (k a b : Int) : Int := if k = 2 then a + b else if k = 3 then a - b else if k = 4 then a * b else if b = 0 then 0 else Int.tdiv a b
def gm_li (L z : Int) : Int := if z < -L then -L else if L < z then L else z
theorem gm_li_r {L z : Int} (h : 0 ≤ L) : -L ≤ gm_li L z ∧ gm_li L z ≤ L := by unfold gm_li; split <;> (try split) <;> omega
def gm_lt (v : Int) : Prop := -1000000 ≤ v ∧ v ≤ 1000000
theorem gm_m6 {a b : Int} (ha : gm_lt a) (hb : gm_lt b) : -1000000000000 ≤ a * b ∧ a * b ≤ 1000000000000 := by
  obtain ⟨h1, h2⟩ := ha
  obtain ⟨h3, h4⟩ := hb
  have e1 : 0 ≤ (1000000 - a) * (1000000 - b) := Int.mul_nonneg (by omega) (by omega)
  have e2 : 0 ≤ (1000000 + a) * (1000000 + b) := Int.mul_nonneg (by omega) (by omega)
  have e3 : 0 ≤ (1000000 - a) * (1000000 + b) := Int.mul_nonneg (by omega) (by omega)
  have e4 : 0 ≤ (1000000 + a) * (1000000 - b) := Int.mul_nonneg (by omega) (by omega)
  grind
theorem gm_td6 {a b : Int} (ha : gm_lt a) : -1000000 ≤ Int.tdiv a b ∧ Int.tdiv a b ≤ 1000000 := by
  have h := Int.natAbs_tdiv_le_natAbs a b
  unfold gm_lt at ha
  omega
theorem gm_op_r {k a b : Int} (ha : gm_lt a) (hb : gm_lt b) : -1000000000000 ≤ gm_op k a b ∧ gm_op k a b ≤ 1000000000000 := by
  have h1 := gm_m6 ha hb
  have h2 := gm_td6 (b := b) ha
  unfold gm_lt at ha hb
  unfold gm_op
  split
  · omega
  · split
    · omega
    · split
      · omega
      · split <;> omega
def SK (f : Int → Int) (l : List Int) : Prop := ∀ (k : Nat) (v : Int), l[k]? = some v → f ((l.length : Int) - 1 - k) = v
/-- the scorer: five figures, a stack -/
def SCD (h : AH) (s b : Nat) (fg : Int → Int) (l : List Int) : Prop := ∃ f, h.1 s = some (4, 4, am_L [0, 0, 0, (l.length : Int)], am_G [some b, some (s + 1), some (s + 2), none]) ∧ h.1 (s + 1) = some (100, 5, fg, am_N) ∧ h.1 (s + 2) = some (100, 16, f, am_N) ∧ SK f l ∧ l.length ≤ 16
theorem SCD.ob {h : AH} {s b : Nat} {fg : Int → Int} {l : List Int} (hS : SCD h s b fg l) : am_ob h s 4 := by
  obtain ⟨f, c, -⟩ := hS
  exact ⟨_, _, _, c⟩
theorem SCD.kept {h h1 : AH} {s b lo hi : Nat} {fg : Int → Int} {l : List Int} (hS : SCD h s b fg l) (f : am_fr h h1 lo hi) (hd : s + 3 ≤ lo ∨ hi ≤ s) : SCD h1 s b fg l := by
  obtain ⟨g, c1, c2, c3, c4⟩ := hS
  exact ⟨g, (f.2 _ (by omega)).trans c1, (f.2 _ (by omega)).trans c2, (f.2 _ (by omega)).trans c3, c4⟩
theorem SK.push {f : Int → Int} {l : List Int} {v : Int} (h : SK f l) : SK (am_uI f (l.length : Int) v) (v :: l) := by
  intro k u hk
  cases k with
  | zero =>
    have : v = u := by simpa using hk
    subst this
    rw [show (((v :: l).length : Nat) : Int) - 1 - ((0 : Nat) : Int) = (l.length : Int) by simp]
    exact am_uI_at _ _ _
  | succ k =>
    rw [List.getElem?_cons_succ] at hk
    have hl : k < l.length := (List.getElem?_eq_some_iff.mp hk).1
    rw [show (((v :: l).length : Nat) : Int) - 1 - ((k + 1 : Nat) : Int) = (l.length : Int) - 1 - k by simp; omega, am_uI_ne _ _ (by omega)]
    exact h k u hk
theorem SK.pop {f : Int → Int} {l : List Int} {v : Int} (h : SK f (v :: l)) : f (l.length : Int) = v ∧ SK f l := by
  constructor
  · have := h 0 v rfl
    rwa [show (((v :: l).length : Nat) : Int) - 1 - ((0 : Nat) : Int) = (l.length : Int) by simp] at this
  · intro k u hk
    have := h (k + 1) u (by rw [List.getElem?_cons_succ]; exact hk)
    rwa [show (((v :: l).length : Nat) : Int) - 1 - ((k + 1 : Nat) : Int) = (l.length : Int) - 1 - k by simp; omega] at this

set_option maxHeartbeats 1000000 in
theorem c_X5_push {w : am_w} {h : AH} {s b : Nat} {fg : Int → Int} {l : List Int} (hS : SCD h s b fg l) (h16 : l.length < 16) {v : Int} : AE w m_X5_push 1 [vr s, vi v] h (am_unit (fun h1 => SCD h1 s b fg (v :: l) ∧ am_fr h h1 s (s + 3))) := by
  refine AE.of wf_X5_push (Nat.le_of_ble_eq_true rfl) (am_ok_v) ?_
  obtain ⟨f, c1, c2, c3, hk, hl⟩ := id hS
  refine q_blk (lv2 := [(0, vr s), (1, vi v)]) (st2 := [vr s]) kX5_push_0 rfl ?_
  refine q_gi eX5_push_1 fl_RX5_18 (Or.inl rfl) c1 (z := (l.length : Int)) rfl ?_
  refine AQ.of (AS.if_lt_f eX5_push_4 (by first | assumption | exact ⟨by omega, by omega⟩) (by omega) (by decide)) ?_
  refine q_blk (lv2 := [(0, vr s), (1, vi v)]) (st2 := [vr s]) kX5_push_7 rfl ?_
  refine q_gi eX5_push_8 fl_RX5_18 (Or.inl rfl) c1 (z := (l.length : Int)) rfl ?_
  refine q_blk (lv2 := [(0, vr s), (1, vi v)]) (st2 := [vr s, vi (l.length : Int)]) kX5_push_11 rfl ?_
  refine q_gr eX5_push_12 fl_RX5_15 (Or.inr ⟨_, rfl⟩) c1 rfl ?_
  refine q_al eX5_push_15 c3 (by decide) ?_
  refine AQ.of (AS.ic_ge_f eX5_push_16 (by first | assumption | exact ⟨by omega, by omega⟩) ⟨by decide, by decide⟩ (by omega) (by decide)) ?_
  refine q_blk (lv2 := [(0, vr s), (1, vi v)]) (st2 := [vr s]) kX5_push_19 rfl ?_
  refine q_gr eX5_push_20 fl_RX5_15 (Or.inr ⟨_, rfl⟩) c1 rfl ?_
  refine q_blk (lv2 := [(0, vr s), (1, vi v)]) (st2 := [vr s, vr (s + 2)]) kX5_push_23 rfl ?_
  refine q_gi eX5_push_24 fl_RX5_18 (Or.inl rfl) c1 (z := (l.length : Int)) rfl ?_
  refine q_blk (lv2 := [(0, vr s), (1, vi v)]) (st2 := [vi v, vi (l.length : Int), vr (s + 2)]) kX5_push_27 rfl ?_
  refine q_is eX5_push_28 c3 (by omega) (by omega) (fun h1 e2 => ?_)
  have k3 := (am_ne e2 s (by omega)).trans c1
  have k4 := (am_ne e2 (s + 1) (by omega)).trans c2
  have k5 := am_at e2
  refine q_blk (lv2 := [(0, vr s), (1, vi v)]) (st2 := [vr s, vr s]) kX5_push_29 rfl ?_
  refine q_gi eX5_push_31 fl_RX5_18 (Or.inl rfl) k3 (z := (l.length : Int)) rfl ?_
  refine q_blk (lv2 := [(0, vr s), (1, vi v)]) (st2 := [vi ((l.length : Int) + 1), vr s]) kX5_push_34 rfl ?_
  refine q_pi eX5_push_36 fl_RX5_18 (fun q hq => by cases hq; exact Or.inl rfl) (Or.inl rfl) k3 (Nat.le_of_ble_eq_true rfl) (l2 := [0, 0, 0, ((l.length : Int) + 1)]) rfl (fun h6 e7 => ?_)
  have k8 := am_at e7
  have k9 := (am_ne e7 (s + 1) (by omega)).trans k4
  have k10 := (am_ne e7 (s + 2) (by omega)).trans k5
  exact q_rv rfl eX5_push_39 ⟨rfl, ⟨_, by rw [show ((((v :: l).length : Nat)) : Int) = (l.length : Int) + 1 by simp]; exact k8, k9, k10, hk.push, by simp; omega⟩, ((am_fr.st e2 (by omega) (by omega)).tr (am_fr.st e7 (by omega) (by omega)))⟩

set_option maxHeartbeats 1000000 in
theorem c_X5_pop {w : am_w} {h : AH} {s b : Nat} {fg : Int → Int} {l : List Int} {v : Int} (hS : SCD h s b fg (v :: l)) : AE w m_X5_pop 1 [vr s] h (am_int (fun z h1 => z = v ∧ SCD h1 s b fg l ∧ am_fr h h1 s (s + 3))) := by
  refine AE.of wf_X5_pop (Nat.le_of_ble_eq_true rfl) (am_ok_i) ?_
  obtain ⟨f, c1, c2, c3, hk, hl⟩ := id hS
  have e9 : (((v :: l).length : Nat) : Int) = (l.length : Int) + 1 := by simp
  have hl2 : l.length ≤ 15 := by simp at hl; omega
  refine q_blk (lv2 := [(0, vr s)]) (st2 := [vr s]) kX5_pop_0 rfl ?_
  refine q_gi eX5_pop_1 fl_RX5_18 (Or.inl rfl) c1 (z := ((v :: l).length : Int)) rfl ?_
  refine AQ.of (AS.if_le_f eX5_pop_4 (by first | assumption | exact ⟨by omega, by omega⟩) (by omega) (by decide)) ?_
  refine q_blk (lv2 := [(0, vr s)]) (st2 := [vr s]) kX5_pop_7 rfl ?_
  refine q_gi eX5_pop_8 fl_RX5_18 (Or.inl rfl) c1 (z := ((v :: l).length : Int)) rfl ?_
  refine q_blk (lv2 := [(0, vr s)]) (st2 := [vr s, vi ((v :: l).length : Int)]) kX5_pop_11 rfl ?_
  refine q_gr eX5_pop_12 fl_RX5_15 (Or.inr ⟨_, rfl⟩) c1 rfl ?_
  refine q_al eX5_pop_15 c3 (by decide) ?_
  refine AQ.of (AS.ic_le_t (tgt := 21) eX5_pop_16 (by decide) (by first | assumption | exact ⟨by omega, by omega⟩) ⟨by decide, by decide⟩ (by omega)) ?_
  refine q_blk (lv2 := [(0, vr s)]) (st2 := [vr s, vr s]) kX5_pop_21 rfl ?_
  refine q_gi eX5_pop_23 fl_RX5_18 (Or.inl rfl) c1 (z := ((v :: l).length : Int)) rfl ?_
  refine q_blk (lv2 := [(0, vr s)]) (st2 := [vi (((v :: l).length : Int) - 1), vr s]) kX5_pop_26 rfl ?_
  refine q_pi eX5_pop_28 fl_RX5_18 (fun q hq => by cases hq; exact Or.inl rfl) (Or.inl rfl) c1 (Nat.le_of_ble_eq_true rfl) (l2 := [0, 0, 0, (((v :: l).length : Int) - 1)]) rfl (fun h1 e2 => ?_)
  have k3 := am_at e2
  have k4 := (am_ne e2 (s + 1) (by omega)).trans c2
  have k5 := (am_ne e2 (s + 2) (by omega)).trans c3
  refine q_blk (lv2 := [(0, vr s)]) (st2 := [vr s]) kX5_pop_31 rfl ?_
  refine q_gr eX5_pop_32 fl_RX5_15 (Or.inr ⟨_, rfl⟩) k3 rfl ?_
  refine q_blk (lv2 := [(0, vr s)]) (st2 := [vr s, vr (s + 2)]) kX5_pop_35 rfl ?_
  refine q_gi eX5_pop_36 fl_RX5_18 (Or.inl rfl) k3 (z := (((v :: l).length : Int) - 1)) rfl ?_
  refine q_ia eX5_pop_39 k5 (by decide) (by omega) (by omega) (z := (f (((v :: l).length : Int) - 1))) rfl ?_
  exact q_ri rfl eX5_pop_40 ⟨(f (((v :: l).length : Int) - 1)), rfl, by rw [show (((v :: l).length : Nat) : Int) - 1 = (l.length : Int) by omega]; exact hk.pop.1, ⟨_, by rw [show (l.length : Int) = (((v :: l).length : Nat) : Int) - 1 by omega]; exact k3, k4, k5, hk.pop.2, by omega⟩, (am_fr.st e2 (by omega) (by omega))⟩

set_option maxHeartbeats 1000000 in
theorem c_X5_setFigure {w : am_w} {h : AH} {s b : Nat} {fg : Int → Int} {l : List Int} (hS : SCD h s b fg l) {p v : Int} (p0 : -5 ≤ p) (p1 : p ≤ -1) : AE w m_X5_setFigure 1 [vr s, vi p, vi v] h (am_unit (fun h1 => SCD h1 s b (am_uI fg (-1 - p) v) l ∧ am_fr h h1 s (s + 3))) := by
  refine AE.of wf_X5_setFigure (Nat.le_of_ble_eq_true rfl) (am_ok_v) ?_
  obtain ⟨f, c1, c2, c3, hk, hl⟩ := id hS
  refine q_blk (lv2 := [(0, vr s), (1, vi p), (2, vi v), (3, vi ((-1) - p))]) (st2 := [vi ((-1) - p)]) kX5_setFigure_0 rfl ?_
  refine AQ.of (AS.if_lt_f eX5_setFigure_5 (by first | assumption | exact ⟨by omega, by omega⟩) (by omega) (by decide)) ?_
  refine q_blk (lv2 := [(0, vr s), (1, vi p), (2, vi v), (3, vi ((-1) - p))]) (st2 := [vr s, vi ((-1) - p)]) kX5_setFigure_8 rfl ?_
  refine q_gr eX5_setFigure_10 fl_RX5_9 (Or.inr ⟨_, rfl⟩) c1 rfl ?_
  refine q_al eX5_setFigure_13 c2 (by decide) ?_
  refine AQ.of (AS.ic_ge_f eX5_setFigure_14 (by first | assumption | exact ⟨by omega, by omega⟩) ⟨by decide, by decide⟩ (by omega) (by decide)) ?_
  refine q_blk (lv2 := [(0, vr s), (1, vi p), (2, vi v), (3, vi ((-1) - p))]) (st2 := [vr s]) kX5_setFigure_17 rfl ?_
  refine q_gr eX5_setFigure_18 fl_RX5_9 (Or.inr ⟨_, rfl⟩) c1 rfl ?_
  refine q_blk (lv2 := [(0, vr s), (1, vi p), (2, vi v), (3, vi ((-1) - p))]) (st2 := [vi v, vi ((-1) - p), vr (s + 1)]) kX5_setFigure_21 rfl ?_
  refine q_is eX5_setFigure_23 c2 (by omega) (by omega) (fun h1 e2 => ?_)
  have k3 := (am_ne e2 s (by omega)).trans c1
  have k4 := am_at e2
  have k5 := (am_ne e2 (s + 2) (by omega)).trans c3
  exact q_rv rfl eX5_setFigure_24 ⟨rfl, ⟨_, k3, k4, k5, hk, hl⟩, (am_fr.st e2 (by omega) (by omega))⟩

set_option maxHeartbeats 1000000 in
theorem c_X5_limited {w : am_w} {h : AH} {v L : Int} (v0 : -2000000000000 ≤ v) (v1 : v ≤ 2000000000000) (L0 : 0 ≤ L) (L1 : L ≤ 1000000) : AE w m_X5_limited 1 [vl v, vi L] h (am_intp h (fun z => z = gm_li L v)) := by
  refine AE.of wf_X5_limited (Nat.le_of_ble_eq_true rfl) (am_ok_ip) ?_
  refine q_blk (lv2 := [(0, vl v), (2, vi L)]) (st2 := [vi (-L)]) kX5_limited_0 rfl ?_
  refine AQ.of (AS.i2l eX5_limited_2 (by first | assumption | exact ⟨by omega, by omega⟩)) ?_
  refine q_blk (lv2 := [(0, vl v), (2, vi L)]) (st2 := [vi L, vl (-L)]) kX5_limited_3 rfl ?_
  refine AQ.of (AS.i2l eX5_limited_4 (by first | assumption | exact ⟨by omega, by omega⟩)) ?_
  refine q_blk (lv2 := [(0, vl v), (2, vi L)]) (st2 := [vl v, vl L, vl (-L)]) kX5_limited_5 rfl ?_
  refine AQ.of (AS.mminL eX5_limited_6 (by first | assumption | exact ⟨by omega, by omega⟩) (by first | assumption | exact ⟨by omega, by omega⟩) (am_gw 433 (by decide +kernel) (by decide +kernel)) (am_gw 434 (by decide +kernel) (by decide +kernel)) (am_gw 53 (by decide +kernel) (by decide +kernel)) (am_gw 435 (by decide +kernel) (by decide +kernel)) (by decide) (Nat.le_of_ble_eq_true rfl)) ?_
  obtain ⟨z1, e2⟩ : ∃ q : Int, q = (if v < L then v else L) := ⟨_, rfl⟩
  rw [← e2]
  refine AQ.of (AS.mmaxL eX5_limited_9 (by first | assumption | exact ⟨by omega, by omega⟩) (by first | assumption | exact ⟨by omega, by omega⟩) (am_gw 436 (by decide +kernel) (by decide +kernel)) (am_gw 437 (by decide +kernel) (by decide +kernel)) (am_gw 53 (by decide +kernel) (by decide +kernel)) (am_gw 438 (by decide +kernel) (by decide +kernel)) (by decide) (Nat.le_of_ble_eq_true rfl)) ?_
  obtain ⟨z3, e4⟩ : ∃ q : Int, q = (if z1 < (-L) then (-L) else z1) := ⟨_, rfl⟩
  rw [← e4]
  refine AQ.of (AS.l2i eX5_limited_12) ?_
  exact q_ri rfl eX5_limited_13 ⟨z3, rfl, by unfold gm_li; split <;> (try split) <;> omega, rfl⟩

set_option maxHeartbeats 1000000 in
theorem c_X5_resultOf {w : am_w} {h : AH} {k a b : Int} (k0 : -9 ≤ k) (k1 : k ≤ -6) (ha : gm_lt a) (hb : gm_lt b) : AE w m_X5_resultOf 1 [vi k, vi a, vi b] h (am_lngp h (fun z => z = gm_op (-4 - k) a b)) := by
  refine AE.of wf_X5_resultOf (Nat.le_of_ble_eq_true rfl) (am_ok_lp) ?_
  have td := gm_td6 (b := b) ha
  have ha9 := ha
  have hb9 := hb
  unfold gm_lt at ha9 hb9
  refine q_blk (lv2 := [(0, vi k), (1, vi a), (2, vi b)]) (st2 := [vi k]) kX5_resultOf_0 rfl ?_
  rcases (show k = -8 ∨ k = -7 ∨ k = -6 ∨ (k < -8 ∨ -6 < k) by omega) with sw1 | sw1 | sw1 | sw1
  · skip
    refine AQ.of (AS.tabIn (z := k) (off := 39) (tgt := 40) eX5_resultOf_1 (by first | assumption | exact ⟨by omega, by omega⟩) (by omega) (by omega) (by rw [sw1]; rfl) (by decide)) ?_
    refine q_blk (lv2 := [(0, vi k), (1, vi a), (2, vi b)]) (st2 := [vi a]) kX5_resultOf_40 rfl ?_
    refine AQ.of (AS.i2l eX5_resultOf_41 (by first | assumption | exact ⟨by omega, by omega⟩)) ?_
    refine q_blk (lv2 := [(0, vi k), (1, vi a), (2, vi b)]) (st2 := [vi b, vl a]) kX5_resultOf_42 rfl ?_
    refine AQ.of (AS.i2l eX5_resultOf_43 (by first | assumption | exact ⟨by omega, by omega⟩)) ?_
    refine q_blk (lv2 := [(0, vi k), (1, vi a), (2, vi b)]) (st2 := [vl (a * b)]) kX5_resultOf_44 rfl ?_
    exact q_rl rfl eX5_resultOf_45 ⟨(a * b), rfl, by unfold gm_op; (repeat' split) <;> first | omega | rfl | (exfalso; omega), rfl⟩
  · skip
    refine AQ.of (AS.tabIn (z := k) (off := 33) (tgt := 34) eX5_resultOf_1 (by first | assumption | exact ⟨by omega, by omega⟩) (by omega) (by omega) (by rw [sw1]; rfl) (by decide)) ?_
    refine q_blk (lv2 := [(0, vi k), (1, vi a), (2, vi b)]) (st2 := [vi a]) kX5_resultOf_34 rfl ?_
    refine AQ.of (AS.i2l eX5_resultOf_35 (by first | assumption | exact ⟨by omega, by omega⟩)) ?_
    refine q_blk (lv2 := [(0, vi k), (1, vi a), (2, vi b)]) (st2 := [vi b, vl a]) kX5_resultOf_36 rfl ?_
    refine AQ.of (AS.i2l eX5_resultOf_37 (by first | assumption | exact ⟨by omega, by omega⟩)) ?_
    refine q_blk (lv2 := [(0, vi k), (1, vi a), (2, vi b)]) (st2 := [vl (a - b)]) kX5_resultOf_38 rfl ?_
    exact q_rl rfl eX5_resultOf_39 ⟨(a - b), rfl, by unfold gm_op; (repeat' split) <;> first | omega | rfl | (exfalso; omega), rfl⟩
  · skip
    refine AQ.of (AS.tabIn (z := k) (off := 27) (tgt := 28) eX5_resultOf_1 (by first | assumption | exact ⟨by omega, by omega⟩) (by omega) (by omega) (by rw [sw1]; rfl) (by decide)) ?_
    refine q_blk (lv2 := [(0, vi k), (1, vi a), (2, vi b)]) (st2 := [vi a]) kX5_resultOf_28 rfl ?_
    refine AQ.of (AS.i2l eX5_resultOf_29 (by first | assumption | exact ⟨by omega, by omega⟩)) ?_
    refine q_blk (lv2 := [(0, vi k), (1, vi a), (2, vi b)]) (st2 := [vi b, vl a]) kX5_resultOf_30 rfl ?_
    refine AQ.of (AS.i2l eX5_resultOf_31 (by first | assumption | exact ⟨by omega, by omega⟩)) ?_
    refine q_blk (lv2 := [(0, vi k), (1, vi a), (2, vi b)]) (st2 := [vl (a + b)]) kX5_resultOf_32 rfl ?_
    exact q_rl rfl eX5_resultOf_33 ⟨(a + b), rfl, by unfold gm_op; (repeat' split) <;> first | omega | rfl | (exfalso; omega), rfl⟩
  · skip
    refine AQ.of (AS.tabOut (z := k) (tgt := 46) eX5_resultOf_1 (by first | assumption | exact ⟨by omega, by omega⟩) sw1 (by decide)) ?_
    refine q_blk (lv2 := [(0, vi k), (1, vi a), (2, vi b)]) (st2 := [vi b]) kX5_resultOf_46 rfl ?_
    refine AQ.if_ne (tgt := 54) eX5_resultOf_47 (by decide) (by first | assumption | exact ⟨by omega, by omega⟩) (fun br2 => ?_) (fun br2 => ?_)
    · skip
      refine q_blk (lv2 := [(0, vi k), (1, vi a), (2, vi b)]) (st2 := [vi b, vi a]) kX5_resultOf_54 rfl ?_
      refine AQ.of (AS.idiv eX5_resultOf_56 (by first | assumption | exact ⟨by omega, by omega⟩) (by first | assumption | exact ⟨by omega, by omega⟩) (by omega)) ?_
      refine AQ.of (AS.i2l eX5_resultOf_57 (by first | assumption | exact ⟨by omega, by omega⟩)) ?_
      exact q_rl rfl eX5_resultOf_58 ⟨(Int.tdiv a b), rfl, by unfold gm_op; (repeat' split) <;> first | omega | rfl | (exfalso; omega), rfl⟩
    · skip
      refine q_blk (lv2 := [(0, vi k), (1, vi a), (2, vi b)]) (st2 := [vl 0]) kX5_resultOf_50 rfl ?_
      refine q_goto (tgt := 58) eX5_resultOf_51 (by decide) ?_
      exact q_rl rfl eX5_resultOf_58 ⟨0, rfl, by unfold gm_op; (repeat' split) <;> first | omega | rfl | (exfalso; omega), rfl⟩

set_option maxHeartbeats 1000000 in
theorem c_X5_doStep0 {w : am_w} {h : AH} {s b : Nat} {fg : Int → Int} {l : List Int} {k a9 b9 : Int} (hS : SCD h s b fg l) (k0 : 0 ≤ k) (k1 : k ≤ 9999) (hlen : l.length < 16) : AE w m_X5_doStep 3 [vr s, vi k] h (am_unit (fun h1 => SCD h1 s b fg (k :: l) ∧ am_fr h h1 s (s + 3))) := by
  refine AE.of wf_X5_doStep (Nat.le_of_ble_eq_true rfl) (am_ok_v) ?_
  obtain ⟨f, c1, c2, c3, hk, hl⟩ := id hS
  refine q_blk (lv2 := [(0, vr s), (1, vi k), (2, vi ((-1) - k))]) (st2 := [vi ((-1) - k)]) kX5_doStep_0 rfl ?_
  refine AQ.of (AS.if_ge_f eX5_doStep_5 (by first | assumption | exact ⟨by omega, by omega⟩) (by omega) (by decide)) ?_
  refine q_blk (lv2 := [(0, vr s), (1, vi k), (2, vi ((-1) - k))]) (st2 := [vi k, vr s]) kX5_doStep_8 rfl ?_
  refine AQ.callVv (av := [vi k]) (st := []) (c_X5_push hS (by first | omega | (simp at hlen ⊢; omega))) lk_RX5_83 (by decide) rfl rfl hS.ob ⟨_, rfl, rfl⟩ (Nat.le_of_ble_eq_true rfl) eX5_doStep_10 (fun h3 e2 => ?_)
  obtain ⟨Xh3, Fh3⟩ := e2
  obtain ⟨g4, g4a, g4b, g4c, g4d, g4e⟩ := id Xh3
  refine q_goto (tgt := 65) eX5_doStep_13 (by decide) ?_
  exact q_rv rfl eX5_doStep_65 ⟨rfl, Xh3, (am_fr.rf.tr Fh3)⟩

set_option maxHeartbeats 1000000 in
theorem c_X5_doStep1 {w : am_w} {h : AH} {s b : Nat} {fg : Int → Int} {l : List Int} {k a9 b9 : Int} (hS : SCD h s b fg l) (k0 : -5 ≤ k) (k1 : k ≤ -1) (hlen : l.length < 16) : AE w m_X5_doStep 3 [vr s, vi k] h (am_unit (fun h1 => SCD h1 s b fg (fg (-1 - k) :: l) ∧ am_fr h h1 s (s + 3))) := by
  refine AE.of wf_X5_doStep (Nat.le_of_ble_eq_true rfl) (am_ok_v) ?_
  obtain ⟨f, c1, c2, c3, hk, hl⟩ := id hS
  refine q_blk (lv2 := [(0, vr s), (1, vi k), (2, vi ((-1) - k))]) (st2 := [vi ((-1) - k)]) kX5_doStep_0 rfl ?_
  refine AQ.of (AS.if_ge_t (tgt := 16) eX5_doStep_5 (by decide) (by first | assumption | exact ⟨by omega, by omega⟩) (by omega)) ?_
  refine q_blk (lv2 := [(0, vr s), (1, vi k), (2, vi ((-1) - k))]) (st2 := [vr s, vi ((-1) - k)]) kX5_doStep_16 rfl ?_
  refine q_gr eX5_doStep_18 fl_RX5_9 (Or.inr ⟨_, rfl⟩) c1 rfl ?_
  refine q_al eX5_doStep_21 c2 (by decide) ?_
  refine AQ.of (AS.ic_ge_f eX5_doStep_22 (by first | assumption | exact ⟨by omega, by omega⟩) ⟨by decide, by decide⟩ (by omega) (by decide)) ?_
  refine q_blk (lv2 := [(0, vr s), (1, vi k), (2, vi ((-1) - k))]) (st2 := [vr s, vr s]) kX5_doStep_25 rfl ?_
  refine q_gr eX5_doStep_27 fl_RX5_9 (Or.inr ⟨_, rfl⟩) c1 rfl ?_
  refine q_blk (lv2 := [(0, vr s), (1, vi k), (2, vi ((-1) - k))]) (st2 := [vi ((-1) - k), vr (s + 1), vr s]) kX5_doStep_30 rfl ?_
  refine q_ia eX5_doStep_31 c2 (by decide) (by omega) (by omega) (z := (fg ((-1) - k))) rfl ?_
  refine AQ.callVv (av := [vi (fg ((-1) - k))]) (st := []) (c_X5_push hS (by first | omega | (simp at hlen ⊢; omega))) lk_RX5_83 (by decide) rfl rfl hS.ob ⟨_, rfl, rfl⟩ (Nat.le_of_ble_eq_true rfl) eX5_doStep_32 (fun h3 e2 => ?_)
  obtain ⟨Xh3, Fh3⟩ := e2
  obtain ⟨g4, g4a, g4b, g4c, g4d, g4e⟩ := id Xh3
  refine q_goto (tgt := 65) eX5_doStep_35 (by decide) ?_
  exact q_rv rfl eX5_doStep_65 ⟨rfl, Xh3, (am_fr.rf.tr Fh3)⟩

set_option maxHeartbeats 1000000 in
theorem c_X5_doStep2 {w : am_w} {h : AH} {s b : Nat} {fg : Int → Int} {l : List Int} {k a9 b9 : Int} (hS : SCD h s b fg (b9 :: a9 :: l)) (k0 : -9 ≤ k) (k1 : k ≤ -6) (ha : gm_lt a9) (hb : gm_lt b9) : AE w m_X5_doStep 3 [vr s, vi k] h (am_unit (fun h1 => SCD h1 s b fg (gm_li 1000000 (gm_op (-4 - k) a9 b9) :: l) ∧ am_fr h h1 s (s + 3))) := by
  refine AE.of wf_X5_doStep (Nat.le_of_ble_eq_true rfl) (am_ok_v) ?_
  obtain ⟨f, c1, c2, c3, hk, hl⟩ := id hS
  have hlen : l.length < 16 := by simp at hl; omega
  have ha9 := ha
  have hb9 := hb
  unfold gm_lt at ha9 hb9
  refine q_blk (lv2 := [(0, vr s), (1, vi k), (2, vi ((-1) - k))]) (st2 := [vi ((-1) - k)]) kX5_doStep_0 rfl ?_
  refine AQ.of (AS.if_ge_t (tgt := 16) eX5_doStep_5 (by decide) (by first | assumption | exact ⟨by omega, by omega⟩) (by omega)) ?_
  refine q_blk (lv2 := [(0, vr s), (1, vi k), (2, vi ((-1) - k))]) (st2 := [vr s, vi ((-1) - k)]) kX5_doStep_16 rfl ?_
  refine q_gr eX5_doStep_18 fl_RX5_9 (Or.inr ⟨_, rfl⟩) c1 rfl ?_
  refine q_al eX5_doStep_21 c2 (by decide) ?_
  refine AQ.of (AS.ic_ge_t (tgt := 38) eX5_doStep_22 (by decide) (by first | assumption | exact ⟨by omega, by omega⟩) ⟨by decide, by decide⟩ (by omega)) ?_
  refine q_blk (lv2 := [(0, vr s), (1, vi k), (2, vi ((-1) - k))]) (st2 := [vr s]) kX5_doStep_38 rfl ?_
  refine AQ.callVi (av := []) (st := []) (c_X5_pop hS) lk_RX5_75 (by decide) rfl rfl hS.ob ⟨_, rfl, rfl⟩ (Nat.le_of_ble_eq_true rfl) eX5_doStep_39 (fun z1 h3 e2 => ?_)
  obtain ⟨qe2, e2⟩ := e2
  obtain ⟨Xh3, Fh3⟩ := e2
  obtain ⟨g4, g4a, g4b, g4c, g4d, g4e⟩ := id Xh3
  have hz2 : z1 = b9 := qe2
  refine q_blk (lv2 := [(0, vr s), (1, vi k), (2, vi ((-1) - k)), (3, vi z1)]) (st2 := [vr s]) kX5_doStep_42 rfl ?_
  refine AQ.callVi (av := []) (st := []) (c_X5_pop Xh3) lk_RX5_75 (by decide) rfl rfl Xh3.ob ⟨_, rfl, rfl⟩ (Nat.le_of_ble_eq_true rfl) eX5_doStep_44 (fun z5 h7 e6 => ?_)
  obtain ⟨qe6, e6⟩ := e6
  obtain ⟨Xh7, Fh7⟩ := e6
  obtain ⟨g8, g8a, g8b, g8c, g8d, g8e⟩ := id Xh7
  have hz1 : z5 = a9 := qe6
  refine q_blk (lv2 := [(0, vr s), (1, vi k), (2, vi ((-1) - k)), (3, vi z1), (4, vi z5)]) (st2 := [vi z1, vi z5, vi k, vr s]) kX5_doStep_47 rfl ?_
  refine q_Sl (av := [vi k, vi z5, vi z1]) (st := [vr s]) (c_X5_resultOf (by omega) (by omega) (by first | assumption | (unfold gm_lt; omega)) (by first | assumption | (unfold gm_lt; omega))) lk_RX5_86 (by decide) rfl rfl (Nat.le_of_ble_eq_true rfl) eX5_doStep_54 (fun z9 e10 => ?_)
  have e10r := gm_op_r (k := -4 - k) ha hb
  have e10s := e10
  rw [hz1, hz2] at e10s
  rw [← e10s] at e10r
  refine AQ.of (AS.ldc (z := 1000000) eX5_doStep_57 (am_gw 429 (by decide +kernel) (by decide +kernel))) ?_
  refine q_Si (av := [vl z9, vi 1000000]) (st := [vr s]) (c_X5_limited (by omega) (by omega) (by omega) (by omega)) lk_RX5_79 (by decide) rfl rfl (Nat.le_of_ble_eq_true rfl) eX5_doStep_59 (fun z11 e12 => ?_)
  refine AQ.callVv (av := [vi z11]) (st := []) (c_X5_push Xh7 (by first | omega | (simp at hlen ⊢; omega))) lk_RX5_83 (by decide) rfl rfl Xh7.ob ⟨_, rfl, rfl⟩ (Nat.le_of_ble_eq_true rfl) eX5_doStep_62 (fun h15 e14 => ?_)
  obtain ⟨Xh15, Fh15⟩ := e14
  obtain ⟨g16, g16a, g16b, g16c, g16d, g16e⟩ := id Xh15
  exact q_rv rfl eX5_doStep_65 ⟨rfl, by rw [← e10s, ← e12]; exact Xh15, (((am_fr.rf.tr Fh3).tr Fh7).tr Fh15)⟩

/-- the score's code: a number, a figure, or what joins the two latest -/
def gm_en (o : Int × Int) : Int := if o.1 = 0 then o.2 else if o.1 = 1 then -1 - o.2 else -4 - o.1
def gm_ok (o : Int × Int) : Prop := (o.1 = 0 ∧ 0 ≤ o.2 ∧ o.2 ≤ 9999) ∨ (o.1 = 1 ∧ 0 ≤ o.2 ∧ o.2 ≤ 4) ∨ (2 ≤ o.1 ∧ o.1 ≤ 5)
def gm_s1 (fg : Int → Int) (o : Int × Int) (l : List Int) : List Int := if o.1 = 0 then o.2 :: l else if o.1 = 1 then fg o.2 :: l else match l with | b :: a :: r => gm_li 1000000 (gm_op o.1 a b) :: r | l => l
def gm_rn (fg : Int → Int) : List (Int × Int) → List Int → List Int
  | [], l => l
  | o :: r, l => gm_rn fg r (gm_s1 fg o l)
def gm_wf : List (Int × Int) → Nat → Prop
  | [], d => d = 1
  | o :: r, d => gm_ok o ∧ ((o.1 ≤ 1 ∧ d < 16 ∧ gm_wf r (d + 1)) ∨ (2 ≤ o.1 ∧ 2 ≤ d ∧ gm_wf r (d - 1)))
theorem gm_rn_c {F G : Int → Int} (h : ∀ i, 0 ≤ i → i ≤ 4 → F i = G i) : ∀ {L : List (Int × Int)} {l : List Int} {d : Nat}, gm_wf L d → gm_rn F L l = gm_rn G L l
  | [], _, _, _ => rfl
  | o :: r, l, d, ⟨ho, hw⟩ => by
    have e : gm_s1 F o l = gm_s1 G o l := by
      unfold gm_s1
      split
      · rfl
      · split
        · rw [h o.2 (by unfold gm_ok at ho; omega) (by unfold gm_ok at ho; omega)]
        · rfl
    simp only [gm_rn]
    rw [e]
    rcases hw with ⟨-, -, hw⟩ | ⟨-, -, hw⟩ <;> exact gm_rn_c h hw
theorem gm_s1_l {F : Int → Int} {o : Int × Int} {l : List Int} {r : List (Int × Int)} (hw : gm_wf (o :: r) l.length) : gm_wf r (gm_s1 F o l).length := by
  obtain ⟨ho, ⟨h1, h2, h3⟩ | ⟨h1, h2, h3⟩⟩ := hw
  · unfold gm_s1
    split
    · exact h3
    · rw [if_pos (by unfold gm_ok at ho; omega)]; exact h3
  · unfold gm_s1
    rw [if_neg (by omega), if_neg (by omega)]
    match l, h2, h3 with
    | b :: a :: r', _, h3 => exact h3
theorem gm_s1_v {F : Int → Int} {o : Int × Int} {l : List Int} (ho : gm_ok o) (hF : ∀ i, 0 ≤ i → i ≤ 4 → gm_lt (F i)) (hv : ∀ v ∈ l, gm_lt v) : ∀ v ∈ gm_s1 F o l, gm_lt v := by
  intro v
  unfold gm_s1
  split
  · intro h
    rcases List.mem_cons.mp h with rfl | h
    · unfold gm_ok at ho; unfold gm_lt; omega
    · exact hv v h
  · split
    · intro h
      rcases List.mem_cons.mp h with rfl | h
      · exact hF _ (by unfold gm_ok at ho; omega) (by unfold gm_ok at ho; omega)
      · exact hv v h
    · match l, hv with
      | [], hv => exact hv v
      | [_], hv => exact hv v
      | b :: a :: r, hv =>
        intro h
        rcases List.mem_cons.mp h with rfl | h
        · have := gm_li_r (L := 1000000) (z := gm_op o.1 a b) (by omega)
          unfold gm_lt; omega
        · exact hv v (List.mem_cons_of_mem _ (List.mem_cons_of_mem _ h))
theorem c_X5_doStep {w : am_w} {h : AH} {s b : Nat} {fg : Int → Int} {l : List Int} {o : Int × Int} {r : List (Int × Int)} (hS : SCD h s b fg l) (hw : gm_wf (o :: r) l.length) (hv : ∀ v ∈ l, gm_lt v) : AE w m_X5_doStep 3 [vr s, vi (gm_en o)] h (am_unit (fun h1 => SCD h1 s b fg (gm_s1 fg o l) ∧ am_fr h h1 s (s + 3))) := by
  obtain ⟨ho, ⟨h1, h2, h3⟩ | ⟨h1, h2, h3⟩⟩ := hw
  · rcases ho with ⟨q, q1, q2⟩ | ⟨q, q1, q2⟩ | q
    · have e : gm_s1 fg o l = o.2 :: l := by unfold gm_s1; rw [if_pos q]
      have e2 : gm_en o = o.2 := by unfold gm_en; rw [if_pos q]
      rw [e, e2]
      exact c_X5_doStep0 (a9 := 0) (b9 := 0) hS q1 q2 h2
    · have e : gm_s1 fg o l = fg o.2 :: l := by unfold gm_s1; rw [if_neg (by omega), if_pos q]
      have e2 : gm_en o = -1 - o.2 := by unfold gm_en; rw [if_neg (by omega), if_pos q]
      have := c_X5_doStep1 (w := w) (a9 := 0) (b9 := 0) (k := -1 - o.2) hS (by omega) (by omega) h2
      rw [show -1 - (-1 - o.2) = o.2 by omega] at this
      rw [e, e2]
      exact this
    · omega
  · have e2 : gm_en o = -4 - o.1 := by unfold gm_en; rw [if_neg (by omega), if_neg (by omega)]
    match l, hS, hv, h2 with
    | b9 :: a9 :: r', hS, hv, _ =>
      have e : gm_s1 fg o (b9 :: a9 :: r') = gm_li 1000000 (gm_op o.1 a9 b9) :: r' := by unfold gm_s1; rw [if_neg (by omega), if_neg (by omega)]
      have := c_X5_doStep2 (w := w) (k := -4 - o.1) hS (by unfold gm_ok at ho; omega) (by omega) (hv a9 (by simp)) (hv b9 (by simp))
      rw [show -4 - (-4 - o.1) = o.1 by omega] at this
      rw [e, e2]
      exact this
/-- where the code lies -/
def CD (h : AH) (a : Nat) (L : List (Int × Int)) : Prop := ∃ ci f g, (ci = 100 ∨ ci = 110) ∧ h.1 a = some (ci, (L.length : Int), f, g) ∧ L.length ≤ 800 ∧ ∀ (k : Nat) (o : Int × Int), L[k]? = some o → f k = gm_en o
theorem CD.kept {h h1 : AH} {a lo hi : Nat} {L : List (Int × Int)} (hS : CD h a L) (f : am_fr h h1 lo hi) (hd : a < lo ∨ hi ≤ a) : CD h1 a L := by
  obtain ⟨ci, g, g2, c0, c1, c2⟩ := hS
  exact ⟨ci, g, g2, c0, (f.2 _ (by omega)).trans c1, c2⟩
def gm_inn (n : Int) (xs ys : Int → Int) : Int := Int.tdiv (gm_abs (gm_ar n xs ys) - gm_bo n xs ys + 2) 2
def gm_fg (D cm : Int → Int) (p i : Int) : Int := if i = 0 then gm_arD D p else if i = 1 then gm_sm (gm_if cm p (sV D)) (D 2).toNat else if i = 2 then pN D p else if i = 3 then gm_de (pN D p) (pX D p) (pY D p) else gm_inn (pN D p) (pX D p) (pY D p)
/-- a polygon's score -/
def gm_sc (D cm : Int → Int) (L : List (Int × Int)) (p : Int) : Int := gm_li 99999 ((gm_rn (gm_fg D cm p) L []).headD 0)
theorem gm_fg_r {D cm : Int → Int} (hD : VD D) {p : Int} (p0 : 0 ≤ p) (p1 : p < D 3) (i : Int) : gm_lt (gm_fg D cm p i) := by
  have hV := hD.vc p0 p1
  have hn := (hD.2.2.2.2.2 p p0 p1).2.1
  have h1 := gm_abs_r (gm_ar_r hV (by omega) (by omega))
  have h2 := gm_bo_r hV (by omega) (by omega)
  have h3 := gm_de_r (n := pN D p) (xs := pX D p) (ys := pY D p) (by omega)
  have h4 := gm_sm_le (f := gm_if cm p (sV D)) (B := 99) (m := (D 2).toNat) (fun k k0 k1 => by
    have := hD.2.2.2.2.1 k k0 (by omega)
    unfold gm_if; split <;> omega)
  have h5 := hD.2.2.1
  have h6 : gm_inn (pN D p) (pX D p) (pY D p) = Int.tdiv (gm_abs (gm_ar (pN D p) (pX D p) (pY D p)) - gm_bo (pN D p) (pX D p) (pY D p) + 2) 2 := rfl
  have h7 := Int.natAbs_tdiv_le_natAbs (gm_abs (gm_ar (pN D p) (pX D p) (pY D p)) - gm_bo (pN D p) (pX D p) (pY D p) + 2) 2
  unfold gm_lt gm_fg gm_arD
  rw [h6]
  split
  · omega
  · split
    · omega
    · split
      · omega
      · split
        · omega
        · omega

set_option maxHeartbeats 1000000 in
theorem c_X5_scoreOf {w : am_w} {h : AH} {s b : Nat} {fg : Int → Int} {l : List Int} {D cm : Int → Int} {sc : Nat} {L : List (Int × Int)} (hS : SCD h s b fg l) (hB : BD h b D cm sc) (hD : VD D) (hcr : ∀ k, 0 ≤ k → k < D 2 → -1 ≤ cm k ∧ cm k < 6) (hC : CD h sc L) (hw : gm_wf L 0) (hd : s + 3 ≤ b ∨ b + 24 ≤ s) (hsc : sc < s ∨ s + 3 ≤ sc) {p : Int} (p0 : 0 ≤ p) (p1 : p < D 3) (hcl : pC D p = 1)  : AE w m_X5_scoreOf 5 [vr s, vi p] h (am_int (fun z h1 => z = gm_sc D cm L p ∧ (∃ fg l, SCD h1 s b fg l) ∧ am_fr h h1 s (s + 3))) := by
  refine AE.of wf_X5_scoreOf (Nat.le_of_ble_eq_true rfl) (am_ok_i) ?_
  obtain ⟨f, c1, c2, c3, hk, hl⟩ := id hS
  obtain ⟨⟨sx, sy, sv, ⟨b0, b1, b2, b3, b4, b5⟩, hst⟩, hall, hsh⟩ := id hB
  have d0 := hD.1
  have d1 := hD.2.1
  have d2 := hD.2.2.1
  have d3 := hD.2.2.2.1
  have vn := (hD.2.2.2.2.2 p p0 p1).2.1
  refine q_blk (lv2 := [(0, vr s), (1, vi p)]) (st2 := [vr s]) kX5_scoreOf_0 rfl ?_
  refine q_gr eX5_scoreOf_1 fl_RX5_22 (Or.inl ⟨_, rfl⟩) c1 rfl ?_
  refine q_blk (lv2 := [(0, vr s), (1, vi p)]) (st2 := [vi p, vr b]) kX5_scoreOf_4 rfl ?_
  refine q_Vr (av := [vi p]) (st := []) (c_X0_shapeAt hB hD (by omega) (by omega)) lk_RX5_31 (by decide) rfl rfl hB.ob ⟨_, rfl, rfl⟩ (Nat.le_of_ble_eq_true rfl) eX5_scoreOf_5 (fun z1 e2 => ?_)
  subst e2
  have hS3 := hB.sh (p := p) (by omega) (by omega)
  obtain ⟨fx3, fy3, hP3, hn3, hc3, hx3⟩ := id hS3
  have hV3 := hD.vc (p := p) (by omega) (by omega)
  refine q_blk (lv2 := [(0, vr s), (1, vi p), (2, vr (b + 6 + 3 * (Int.toNat p)))]) (st2 := [vr (b + 6 + 3 * (Int.toNat p)), vi (-1), vr s]) kX5_scoreOf_8 rfl ?_
  refine q_Vi (av := []) (st := [vi (-1), vr s]) (c_X7_doubledArea hS3 hV3) lk_RX5_48 (by decide) rfl rfl hS3.ob ⟨_, rfl, rfl⟩ (Nat.le_of_ble_eq_true rfl) eX5_scoreOf_12 (fun z4 e5 => ?_)
  subst e5
  refine AQ.callVv (av := [vi (-1), vi (gm_abs (gm_ar (pN D p) (pX D p) (pY D p)))]) (st := []) (c_X5_setFigure hS (by omega) (by omega)) lk_RX5_52 (by decide) rfl rfl hS.ob ⟨_, rfl, rfl⟩ (Nat.le_of_ble_eq_true rfl) eX5_scoreOf_15 (fun h8 e7 => ?_)
  obtain ⟨Xh8, Fh8⟩ := e7
  obtain ⟨g9, g9a, g9b, g9c, g9d, g9e⟩ := id Xh8
  have k10 := (Fh8.2 b (by omega)).trans b0
  have k11 := hB.kept Fh8 (by omega) (by omega)
  have k12 := (Fh8.2 (b + 1) (by omega)).trans b1
  have k13 := (Fh8.2 (b + 2) (by omega)).trans b2
  have k14 := (Fh8.2 (b + 3) (by omega)).trans b3
  have k15 := (Fh8.2 (b + 4) (by omega)).trans b4
  have k16 := (Fh8.2 (b + 5) (by omega)).trans b5
  have k17 := (Fh8.2 (b + 6 + 3 * (Int.toNat p)) (by omega)).trans hP3.1
  have k18 := hS3.kept Fh8 (by omega)
  refine q_blk (lv2 := [(0, vr s), (1, vi p), (2, vr (b + 6 + 3 * (Int.toNat p)))]) (st2 := [vr s, vi (-2), vr s]) kX5_scoreOf_18 rfl ?_
  refine q_gr eX5_scoreOf_22 fl_RX5_22 (Or.inl ⟨_, rfl⟩) g9a rfl ?_
  refine q_blk (lv2 := [(0, vr s), (1, vi p), (2, vr (b + 6 + 3 * (Int.toNat p)))]) (st2 := [vi p, vr b, vi (-2), vr s]) kX5_scoreOf_25 rfl ?_
  refine q_Vi (av := [vi p]) (st := [vi (-2), vr s]) (c_X0_valueOfStonesOf k11 hD hcr (by omega) (by omega)) lk_RX5_56 (by decide) rfl rfl k11.ob ⟨_, rfl, rfl⟩ (Nat.le_of_ble_eq_true rfl) eX5_scoreOf_26 (fun z19 e20 => ?_)
  subst e20
  refine AQ.callVv (av := [vi (-2), vi (gm_sm (gm_if cm p (sV D)) (D 2).toNat)]) (st := []) (c_X5_setFigure Xh8 (by omega) (by omega)) lk_RX5_52 (by decide) rfl rfl Xh8.ob ⟨_, rfl, rfl⟩ (Nat.le_of_ble_eq_true rfl) eX5_scoreOf_29 (fun h23 e22 => ?_)
  obtain ⟨Xh23, Fh23⟩ := e22
  obtain ⟨g24, g24a, g24b, g24c, g24d, g24e⟩ := id Xh23
  have k25 := (Fh23.2 b (by omega)).trans k10
  have k26 := k11.kept Fh23 (by omega) (by omega)
  have k27 := (Fh23.2 (b + 1) (by omega)).trans k12
  have k28 := (Fh23.2 (b + 2) (by omega)).trans k13
  have k29 := (Fh23.2 (b + 3) (by omega)).trans k14
  have k30 := (Fh23.2 (b + 4) (by omega)).trans k15
  have k31 := (Fh23.2 (b + 5) (by omega)).trans k16
  have k32 := (Fh23.2 (b + 6 + 3 * (Int.toNat p)) (by omega)).trans k17
  have k33 := k18.kept Fh23 (by omega)
  refine q_blk (lv2 := [(0, vr s), (1, vi p), (2, vr (b + 6 + 3 * (Int.toNat p)))]) (st2 := [vr (b + 6 + 3 * (Int.toNat p)), vi (-3), vr s]) kX5_scoreOf_32 rfl ?_
  refine q_gi eX5_scoreOf_36 fl_RX5_59 (Or.inl rfl) k32 (z := (pN D p)) rfl ?_
  refine AQ.callVv (av := [vi (-3), vi (pN D p)]) (st := []) (c_X5_setFigure Xh23 (by omega) (by omega)) lk_RX5_52 (by decide) rfl rfl Xh23.ob ⟨_, rfl, rfl⟩ (Nat.le_of_ble_eq_true rfl) eX5_scoreOf_39 (fun h36 e35 => ?_)
  obtain ⟨Xh36, Fh36⟩ := e35
  obtain ⟨g37, g37a, g37b, g37c, g37d, g37e⟩ := id Xh36
  have k38 := (Fh36.2 b (by omega)).trans k25
  have k39 := k26.kept Fh36 (by omega) (by omega)
  have k40 := (Fh36.2 (b + 1) (by omega)).trans k27
  have k41 := (Fh36.2 (b + 2) (by omega)).trans k28
  have k42 := (Fh36.2 (b + 3) (by omega)).trans k29
  have k43 := (Fh36.2 (b + 4) (by omega)).trans k30
  have k44 := (Fh36.2 (b + 5) (by omega)).trans k31
  have k45 := (Fh36.2 (b + 6 + 3 * (Int.toNat p)) (by omega)).trans k32
  have k46 := k33.kept Fh36 (by omega)
  refine q_blk (lv2 := [(0, vr s), (1, vi p), (2, vr (b + 6 + 3 * (Int.toNat p)))]) (st2 := [vr (b + 6 + 3 * (Int.toNat p)), vi (-4), vr s]) kX5_scoreOf_42 rfl ?_
  refine q_Vi (av := []) (st := [vi (-4), vr s]) (c_X7_dentCount k46 hV3) lk_RX5_62 (by decide) rfl rfl k46.ob ⟨_, rfl, rfl⟩ (Nat.le_of_ble_eq_true rfl) eX5_scoreOf_46 (fun z47 e48 => ?_)
  subst e48
  refine AQ.callVv (av := [vi (-4), vi (gm_de (pN D p) (pX D p) (pY D p))]) (st := []) (c_X5_setFigure Xh36 (by omega) (by omega)) lk_RX5_52 (by decide) rfl rfl Xh36.ob ⟨_, rfl, rfl⟩ (Nat.le_of_ble_eq_true rfl) eX5_scoreOf_49 (fun h51 e50 => ?_)
  obtain ⟨Xh51, Fh51⟩ := e50
  obtain ⟨g52, g52a, g52b, g52c, g52d, g52e⟩ := id Xh51
  have k53 := (Fh51.2 b (by omega)).trans k38
  have k54 := k39.kept Fh51 (by omega) (by omega)
  have k55 := (Fh51.2 (b + 1) (by omega)).trans k40
  have k56 := (Fh51.2 (b + 2) (by omega)).trans k41
  have k57 := (Fh51.2 (b + 3) (by omega)).trans k42
  have k58 := (Fh51.2 (b + 4) (by omega)).trans k43
  have k59 := (Fh51.2 (b + 5) (by omega)).trans k44
  have k60 := (Fh51.2 (b + 6 + 3 * (Int.toNat p)) (by omega)).trans k45
  have k61 := k46.kept Fh51 (by omega)
  refine q_blk (lv2 := [(0, vr s), (1, vi p), (2, vr (b + 6 + 3 * (Int.toNat p)))]) (st2 := [vr (b + 6 + 3 * (Int.toNat p)), vi (-5), vr s]) kX5_scoreOf_52 rfl ?_
  refine q_Vi (av := []) (st := [vi (-5), vr s]) (c_X7_innerPoints k61 hV3) lk_RX5_65 (by decide) rfl rfl k61.ob ⟨_, rfl, rfl⟩ (Nat.le_of_ble_eq_true rfl) eX5_scoreOf_56 (fun z62 e63 => ?_)
  subst e63
  refine AQ.callVv (av := [vi (-5), vi (Int.tdiv (gm_abs (gm_ar (pN D p) (pX D p) (pY D p)) - gm_bo (pN D p) (pX D p) (pY D p) + 2) 2)]) (st := []) (c_X5_setFigure Xh51 (by omega) (by omega)) lk_RX5_52 (by decide) rfl rfl Xh51.ob ⟨_, rfl, rfl⟩ (Nat.le_of_ble_eq_true rfl) eX5_scoreOf_59 (fun h66 e65 => ?_)
  obtain ⟨Xh66, Fh66⟩ := e65
  obtain ⟨g67, g67a, g67b, g67c, g67d, g67e⟩ := id Xh66
  have k68 := (Fh66.2 b (by omega)).trans k53
  have k69 := k54.kept Fh66 (by omega) (by omega)
  have k70 := (Fh66.2 (b + 1) (by omega)).trans k55
  have k71 := (Fh66.2 (b + 2) (by omega)).trans k56
  have k72 := (Fh66.2 (b + 3) (by omega)).trans k57
  have k73 := (Fh66.2 (b + 4) (by omega)).trans k58
  have k74 := (Fh66.2 (b + 5) (by omega)).trans k59
  have k75 := (Fh66.2 (b + 6 + 3 * (Int.toNat p)) (by omega)).trans k60
  have k76 := k61.kept Fh66 (by omega)
  refine q_blk (lv2 := [(0, vr s), (1, vi p), (2, vr (b + 6 + 3 * (Int.toNat p)))]) (st2 := [vi 0, vr s]) kX5_scoreOf_62 rfl ?_
  have hF : ∀ i, 0 ≤ i → i ≤ 4 → (am_uI (am_uI (am_uI (am_uI (am_uI fg (-1 - (-1)) (gm_abs (gm_ar (pN D p) (pX D p) (pY D p)))) (-1 - (-2)) (gm_sm (gm_if cm p (sV D)) (D 2).toNat)) (-1 - (-3)) (pN D p)) (-1 - (-4)) (gm_de (pN D p) (pX D p) (pY D p))) (-1 - (-5)) (Int.tdiv (gm_abs (gm_ar (pN D p) (pX D p) (pY D p)) - gm_bo (pN D p) (pX D p) (pY D p) + 2) 2)) i = gm_fg D cm p i := by
    intro i i0 i1
    unfold gm_fg am_uI gm_arD gm_inn
    rcases (show i = 0 ∨ i = 1 ∨ i = 2 ∨ i = 3 ∨ i = 4 by omega) with rfl | rfl | rfl | rfl | rfl <;> simp
  have hFr : ∀ i, 0 ≤ i → i ≤ 4 → gm_lt ((am_uI (am_uI (am_uI (am_uI (am_uI fg (-1 - (-1)) (gm_abs (gm_ar (pN D p) (pX D p) (pY D p)))) (-1 - (-2)) (gm_sm (gm_if cm p (sV D)) (D 2).toNat)) (-1 - (-3)) (pN D p)) (-1 - (-4)) (gm_de (pN D p) (pX D p) (pY D p))) (-1 - (-5)) (Int.tdiv (gm_abs (gm_ar (pN D p) (pX D p) (pY D p)) - gm_bo (pN D p) (pX D p) (pY D p) + 2) 2)) i) := fun i i0 i1 => by rw [hF i i0 i1]; exact gm_fg_r hD p0 p1 i
  refine q_pi eX5_scoreOf_64 fl_RX5_18 (fun q hq => by cases hq; exact Or.inl rfl) (Or.inl rfl) g67a (Nat.le_of_ble_eq_true rfl) (l2 := [0, 0, 0, 0]) rfl (fun h77 e78 => ?_)
  have k79 := (am_ne e78 b (by omega)).trans k68
  have k80 := (am_ne e78 (b + 1) (by omega)).trans k70
  have k81 := (am_ne e78 (b + 2) (by omega)).trans k71
  have k82 := (am_ne e78 (b + 3) (by omega)).trans k72
  have k83 := (am_ne e78 (b + 4) (by omega)).trans k73
  have k84 := (am_ne e78 (b + 5) (by omega)).trans k74
  have k85 := am_at e78
  have k86 := (am_ne e78 (s + 1) (by omega)).trans g67b
  have k87 := (am_ne e78 (s + 2) (by omega)).trans g67c
  have k88 := (am_ne e78 (b + 6 + 3 * (Int.toNat p)) (by omega)).trans k75
  refine q_blk (lv2 := [(0, vr s), (1, vi p), (2, vr (b + 6 + 3 * (Int.toNat p))), (3, vi 0)]) (st2 := []) kX5_scoreOf_67 rfl ?_
  refine q_sub (lv2 := [(0, vr s), (3, vi 0)]) [0, 3] rfl ?_
  refine am_lp3 (I := fun (i : Int) (hh : AH) (ll : List Int) => (0 ≤ i ∧ i ≤ (L.length : Int)) ∧ SCD hh s b (am_uI (am_uI (am_uI (am_uI (am_uI fg (-1 - (-1)) (gm_abs (gm_ar (pN D p) (pX D p) (pY D p)))) (-1 - (-2)) (gm_sm (gm_if cm p (sV D)) (D 2).toNat)) (-1 - (-3)) (pN D p)) (-1 - (-4)) (gm_de (pN D p) (pX D p) (pY D p))) (-1 - (-5)) (Int.tdiv (gm_abs (gm_ar (pN D p) (pX D p) (pY D p)) - gm_bo (pN D p) (pX D p) (pY D p) + 2) 2)) ll ∧ am_fr h hh s (s + 3) ∧ gm_rn (am_uI (am_uI (am_uI (am_uI (am_uI fg (-1 - (-1)) (gm_abs (gm_ar (pN D p) (pX D p) (pY D p)))) (-1 - (-2)) (gm_sm (gm_if cm p (sV D)) (D 2).toNat)) (-1 - (-3)) (pN D p)) (-1 - (-4)) (gm_de (pN D p) (pX D p) (pY D p))) (-1 - (-5)) (Int.tdiv (gm_abs (gm_ar (pN D p) (pX D p) (pY D p)) - gm_bo (pN D p) (pX D p) (pY D p) + 2) 2)) (L.drop i.toNat) ll = gm_rn (am_uI (am_uI (am_uI (am_uI (am_uI fg (-1 - (-1)) (gm_abs (gm_ar (pN D p) (pX D p) (pY D p)))) (-1 - (-2)) (gm_sm (gm_if cm p (sV D)) (D 2).toNat)) (-1 - (-3)) (pN D p)) (-1 - (-4)) (gm_de (pN D p) (pX D p) (pY D p))) (-1 - (-5)) (Int.tdiv (gm_abs (gm_ar (pN D p) (pX D p) (pY D p)) - gm_bo (pN D p) (pX D p) (pY D p) + 2) 2)) L [] ∧ gm_wf (L.drop i.toNat) ll.length ∧ ∀ v ∈ ll, gm_lt v) (μ := fun (i : Int) (hh : AH) (ll : List Int) => ((L.length : Int) - i).toNat) (G := fun (i : Int) (hh : AH) (ll : List Int) => AQ w m_X5_scoreOf 5 69 [(0, vr s), (3, vi i)] [] hh (am_int (fun z h1 => z = gm_sc D cm L p ∧ (∃ fg l, SCD h1 s b fg l) ∧ am_fr h h1 s (s + 3)))) ?_ 0 h77 [] (⟨⟨by omega, by omega⟩, ⟨_, k85, k86, k87, fun k v hk => by simp at hk, by simp⟩, (((((am_fr.rf.tr Fh8).tr Fh23).tr Fh36).tr Fh51).tr Fh66).tr (am_fr.st e78 (by omega) (by omega)), rfl, by simpa using hw, fun v hv => by simp at hv⟩)
  intro i hh ll hI90 ih89
  obtain ⟨⟨i0, i1⟩, hS9, hfr, hrn, hw9, hv9⟩ := hI90
  have hB9 := hB.kept hfr (by omega) (by omega)
  have hC9 := hC.kept hfr (by omega)
  obtain ⟨⟨_, _, _, ⟨y0, -⟩, -⟩, -⟩ := id hB9
  obtain ⟨ci, fc, gc, hci, hc9, hl8, hcf⟩ := id hC9
  obtain ⟨_, u1, -⟩ := id hS9
  refine q_blk (lv2 := [(0, vr s), (3, vi i)]) (st2 := [vr s, vi i]) kX5_scoreOf_69 rfl ?_
  refine q_gr eX5_scoreOf_71 fl_RX5_22 (Or.inl ⟨_, rfl⟩) u1 rfl ?_
  refine q_gr eX5_scoreOf_74 fl_RX5_68 (Or.inr ⟨_, rfl⟩) y0 rfl ?_
  refine q_al eX5_scoreOf_77 hc9 (by omega) ?_
  refine AQ.ic_ge (tgt := 100) eX5_scoreOf_78 (by decide) (by first | assumption | exact ⟨by omega, by omega⟩) (by first | assumption | exact ⟨by omega, by omega⟩) (fun br91 => ?_) (fun br91 => ?_)
  · skip
    have ei : i.toNat = L.length := by omega
    rw [ei, List.drop_length] at hrn hw9
    obtain ⟨v9, rfl⟩ : ∃ v, ll = [v] := by match ll, hw9 with | [v], _ => exact ⟨v, rfl⟩
    have hv0 := hv9 v9 (by simp)
    unfold gm_lt at hv0
    refine q_blk (lv2 := [(0, vr s), (3, vi i)]) (st2 := [vr s]) kX5_scoreOf_100 rfl ?_
    refine AQ.callVi (av := []) (st := []) (c_X5_pop hS9) lk_RX5_75 (by decide) rfl rfl hS9.ob ⟨_, rfl, rfl⟩ (Nat.le_of_ble_eq_true rfl) eX5_scoreOf_101 (fun z92 h94 e93 => ?_)
    obtain ⟨rfl, X9, F9⟩ := e93
    refine AQ.of (AS.i2l eX5_scoreOf_104 (by first | assumption | exact ⟨by omega, by omega⟩)) ?_
    refine AQ.of (AS.ldc (z := 99999) eX5_scoreOf_105 (am_gw 439 (by decide +kernel) (by decide +kernel))) ?_
    refine q_Si (av := [vl z92, vi 99999]) (st := []) (c_X5_limited (by omega) (by omega) (by omega) (by omega)) lk_RX5_79 (by decide) rfl rfl (Nat.le_of_ble_eq_true rfl) eX5_scoreOf_107 (fun z95 e96 => ?_)
    exact q_ri rfl eX5_scoreOf_110 ⟨z95, rfl, by rw [e96]; unfold gm_sc; rw [← gm_rn_c hF hw, ← hrn]; rfl, ⟨_, _, X9⟩, hfr.tr F9⟩
  · skip
    obtain ⟨o9, ho9⟩ : ∃ o, L[i.toNat]? = some o := ⟨_, List.getElem?_eq_getElem (by omega)⟩
    have hdr : L.drop i.toNat = o9 :: L.drop (i.toNat + 1) := by rw [List.drop_eq_getElem_cons (by omega)]; congr 1; exact (List.getElem?_eq_some_iff.mp ho9).2
    have hfo := hcf i.toNat o9 ho9
    rw [show ((i.toNat : Nat) : Int) = i by omega] at hfo
    rw [hdr] at hrn hw9
    refine q_blk (lv2 := [(0, vr s), (3, vi i)]) (st2 := [vr s, vr s]) kX5_scoreOf_81 rfl ?_
    refine q_gr eX5_scoreOf_83 fl_RX5_22 (Or.inl ⟨_, rfl⟩) u1 rfl ?_
    refine q_gr eX5_scoreOf_86 fl_RX5_68 (Or.inr ⟨_, rfl⟩) y0 rfl ?_
    refine q_blk (lv2 := [(0, vr s), (3, vi i)]) (st2 := [vi i, vr sc, vr s]) kX5_scoreOf_89 rfl ?_
    refine q_ia eX5_scoreOf_90 hc9 hci (by omega) (by omega) (z := (fc i)) rfl ?_
    rw [hfo]
    refine AQ.callVv (av := [vi (gm_en o9)]) (st := []) (c_X5_doStep (o := o9) (r := L.drop (i.toNat + 1)) hS9 hw9 hv9) lk_RX5_71 (by decide) rfl rfl hS9.ob ⟨_, rfl, rfl⟩ (Nat.le_of_ble_eq_true rfl) eX5_scoreOf_91 (fun h99 e98 => ?_)
    obtain ⟨X9, F9⟩ := e98
    refine q_blk (lv2 := [(0, vr s), (3, vi (i + 1))]) (st2 := []) kX5_scoreOf_94 rfl ?_
    refine q_goto (tgt := 69) eX5_scoreOf_97 (by decide) ?_
    exact ih89 (i + 1) h99 (gm_s1 (am_uI (am_uI (am_uI (am_uI (am_uI fg (-1 - (-1)) (gm_abs (gm_ar (pN D p) (pX D p) (pY D p)))) (-1 - (-2)) (gm_sm (gm_if cm p (sV D)) (D 2).toNat)) (-1 - (-3)) (pN D p)) (-1 - (-4)) (gm_de (pN D p) (pX D p) (pY D p))) (-1 - (-5)) (Int.tdiv (gm_abs (gm_ar (pN D p) (pX D p) (pY D p)) - gm_bo (pN D p) (pX D p) (pY D p) + 2) 2)) o9 ll) (⟨⟨by omega, by omega⟩, X9, hfr.tr F9, by rw [show (i + 1).toNat = i.toNat + 1 by omega]; exact hrn, by rw [show (i + 1).toNat = i.toNat + 1 by omega]; exact gm_s1_l hw9, gm_s1_v hw9.1 hFr hv9⟩) (by omega)

def gm_pp (D cm : Int → Int) (L : List (Int × Int)) (pl p : Int) : Int := if pC D p = 1 ∧ pO D p = pl then gm_sc D cm L p else 0
/-- a player's points -/
def gm_pt (D cm : Int → Int) (L : List (Int × Int)) (pl : Int) : Int := gm_sm (gm_pp D cm L pl) (D 3).toNat

set_option maxHeartbeats 1000000 in
theorem c_X5_sumOf {w : am_w} {h : AH} {s b : Nat} {fg : Int → Int} {l : List Int} {D cm : Int → Int} {sc : Nat} {L : List (Int × Int)} (hS : SCD h s b fg l) (hB : BD h b D cm sc) (hD : VD D) (hcr : ∀ k, 0 ≤ k → k < D 2 → -1 ≤ cm k ∧ cm k < 6) (hC : CD h sc L) (hw : gm_wf L 0) (hd : s + 3 ≤ b ∨ b + 24 ≤ s) (hsc : sc < s ∨ s + 3 ≤ sc) {pl : Int} (pl0 : 0 ≤ pl) (pl1 : pl ≤ 3)  : AE w m_X5_sumOf 6 [vr s, vi pl] h (am_int (fun z h1 => z = gm_pt D cm L pl ∧ (∃ fg l, SCD h1 s b fg l) ∧ am_fr h h1 s (s + 3))) := by
  refine AE.of wf_X5_sumOf (Nat.le_of_ble_eq_true rfl) (am_ok_i) ?_
  obtain ⟨f, c1, c2, c3, hk, hl⟩ := id hS
  obtain ⟨⟨sx, sy, sv, ⟨b0, b1, b2, b3, b4, b5⟩, hst⟩, hall, hsh⟩ := id hB
  have d0 := hD.1
  have d1 := hD.2.1
  have d2 := hD.2.2.1
  have d3 := hD.2.2.2.1
  refine q_blk (lv2 := [(0, vr s), (1, vi pl), (2, vi 0), (3, vi 0)]) (st2 := []) kX5_sumOf_0 rfl ?_
  refine am_lp5 (I := fun (s9 : Int) (i : Int) (hh : AH) (fg9 : Int → Int) (l9 : List Int) => (0 ≤ i ∧ i ≤ D 3) ∧ s9 = gm_sm (gm_pp D cm L pl) i.toNat ∧ am_fr h hh s (s + 3) ∧ SCD hh s b fg9 l9) (μ := fun (s9 : Int) (i : Int) (hh : AH) (fg9 : Int → Int) (l9 : List Int) => (D 3 - i).toNat) (G := fun (s9 : Int) (i : Int) (hh : AH) (fg9 : Int → Int) (l9 : List Int) => AQ w m_X5_sumOf 6 4 [(0, vr s), (1, vi pl), (2, vi s9), (3, vi i)] [] hh (am_int (fun z h1 => z = gm_pt D cm L pl ∧ (∃ fg l, SCD h1 s b fg l) ∧ am_fr h h1 s (s + 3)))) ?_ 0 0 h fg l (⟨⟨by omega, by omega⟩, rfl, am_fr.rf, hS⟩)
  intro s9 i hh fg9 l9 hI2 ih1
  obtain ⟨⟨i0, i1⟩, hs, hfr, hS9⟩ := hI2
  have hB9 := hB.kept hfr (by omega) (by omega)
  have hC9 := hC.kept hfr (by omega)
  obtain ⟨⟨u0, u2, u3, ⟨y0, y1, y2, y3, y4, y5⟩, -⟩, -⟩ := id hB9
  obtain ⟨_, u1, -⟩ := id hS9
  refine q_blk (lv2 := [(0, vr s), (1, vi pl), (2, vi s9), (3, vi i)]) (st2 := [vr s, vi i]) kX5_sumOf_4 rfl ?_
  refine q_gr eX5_sumOf_6 fl_RX5_22 (Or.inl ⟨_, rfl⟩) u1 rfl ?_
  refine q_gi eX5_sumOf_9 fl_RX5_26 (Or.inl rfl) y0 (z := (D 3)) rfl ?_
  refine AQ.ic_ge (tgt := 56) eX5_sumOf_12 (by decide) (by first | assumption | exact ⟨by omega, by omega⟩) (by first | assumption | exact ⟨by omega, by omega⟩) (fun br3 => ?_) (fun br3 => ?_)
  · skip
    refine q_blk (lv2 := [(0, vr s), (1, vi pl), (2, vi s9), (3, vi i)]) (st2 := [vi s9]) kX5_sumOf_56 rfl ?_
    exact q_ri rfl eX5_sumOf_57 ⟨s9, rfl, by rw [hs, show i = D 3 by omega]; rfl, ⟨_, _, hS9⟩, hfr⟩
  · skip
    refine q_blk (lv2 := [(0, vr s), (1, vi pl), (2, vi s9), (3, vi i)]) (st2 := [vr s]) kX5_sumOf_15 rfl ?_
    refine q_gr eX5_sumOf_16 fl_RX5_22 (Or.inl ⟨_, rfl⟩) u1 rfl ?_
    refine q_blk (lv2 := [(0, vr s), (1, vi pl), (2, vi s9), (3, vi i)]) (st2 := [vi i, vr b]) kX5_sumOf_19 rfl ?_
    refine q_Vr (av := [vi i]) (st := []) (c_X0_shapeAt hB9 hD (by omega) (by omega)) lk_RX5_31 (by decide) rfl rfl hB9.ob ⟨_, rfl, rfl⟩ (Nat.le_of_ble_eq_true rfl) eX5_sumOf_20 (fun z4 e5 => ?_)
    subst e5
    have hS6 := hB9.sh (p := i) (by omega) (by omega)
    obtain ⟨fx6, fy6, hP6, hn6, hc6, hx6⟩ := id hS6
    have hV6 := hD.vc (p := i) (by omega) (by omega)
    refine q_blk (lv2 := [(0, vr s), (1, vi pl), (2, vi s9), (3, vi i), (4, vr (b + 6 + 3 * (Int.toNat i)))]) (st2 := [vr (b + 6 + 3 * (Int.toNat i))]) kX5_sumOf_23 rfl ?_
    refine q_gi eX5_sumOf_27 fl_RX5_35 (Or.inr rfl) hP6.1 (z := (pC D i)) rfl ?_
    refine AQ.if_eq (tgt := 50) eX5_sumOf_30 (by decide) (by first | assumption | exact ⟨by omega, by omega⟩) (fun br7 => ?_) (fun br7 => ?_)
    · skip
      refine q_blk (lv2 := [(0, vr s), (1, vi pl), (2, vi s9), (3, vi (i + 1)), (4, vr (b + 6 + 3 * (Int.toNat i)))]) (st2 := []) kX5_sumOf_50 rfl ?_
      refine q_goto (tgt := 4) eX5_sumOf_53 (by decide) ?_
      refine q_sub (lv2 := [(0, vr s), (1, vi pl), (2, vi s9), (3, vi (i + 1))]) [0, 1, 2, 3] rfl ?_
      exact ih1 s9 (i + 1) hh fg9 l9 (⟨⟨by omega, by omega⟩, by rw [gm_sm_s _ i0, ← hs]; unfold gm_pp; rw [if_neg (by omega)]; omega, hfr, hS9⟩) (by omega)
    · skip
      have vo := (hD.2.2.2.2.2 i i0 (by omega)).1
      refine q_blk (lv2 := [(0, vr s), (1, vi pl), (2, vi s9), (3, vi i), (4, vr (b + 6 + 3 * (Int.toNat i)))]) (st2 := [vr (b + 6 + 3 * (Int.toNat i))]) kX5_sumOf_33 rfl ?_
      refine q_gi eX5_sumOf_35 fl_RX5_41 (Or.inl rfl) hP6.1 (z := (pO D i)) rfl ?_
      refine q_blk (lv2 := [(0, vr s), (1, vi pl), (2, vi s9), (3, vi i), (4, vr (b + 6 + 3 * (Int.toNat i)))]) (st2 := [vi pl, vi (pO D i)]) kX5_sumOf_38 rfl ?_
      refine AQ.ic_ne (tgt := 50) eX5_sumOf_39 (by decide) (by first | assumption | exact ⟨by omega, by omega⟩) (by first | assumption | exact ⟨by omega, by omega⟩) (fun br8 => ?_) (fun br8 => ?_)
      · skip
        refine q_blk (lv2 := [(0, vr s), (1, vi pl), (2, vi s9), (3, vi (i + 1)), (4, vr (b + 6 + 3 * (Int.toNat i)))]) (st2 := []) kX5_sumOf_50 rfl ?_
        refine q_goto (tgt := 4) eX5_sumOf_53 (by decide) ?_
        refine q_sub (lv2 := [(0, vr s), (1, vi pl), (2, vi s9), (3, vi (i + 1))]) [0, 1, 2, 3] rfl ?_
        exact ih1 s9 (i + 1) hh fg9 l9 (⟨⟨by omega, by omega⟩, by rw [gm_sm_s _ i0, ← hs]; unfold gm_pp; rw [if_neg (by omega)]; omega, hfr, hS9⟩) (by omega)
      · skip
        refine q_blk (lv2 := [(0, vr s), (1, vi pl), (2, vi s9), (3, vi i), (4, vr (b + 6 + 3 * (Int.toNat i)))]) (st2 := [vi i, vr s, vi s9]) kX5_sumOf_42 rfl ?_
        refine AQ.callVi (av := [vi i]) (st := [vi s9]) (c_X5_scoreOf hS9 hB9 hD hcr hC9 hw hd hsc i0 (by omega) (by omega)) lk_RX5_44 (by decide) rfl rfl hS9.ob ⟨_, rfl, rfl⟩ (Nat.le_of_ble_eq_true rfl) eX5_sumOf_45 (fun z9 h11 e10 => ?_)
        obtain ⟨rz, ⟨fg8, l8, X9⟩, F9⟩ := e10
        refine q_blk (lv2 := [(0, vr s), (1, vi pl), (2, vi (s9 + z9)), (3, vi i), (4, vr (b + 6 + 3 * (Int.toNat i)))]) (st2 := []) kX5_sumOf_48 rfl ?_
        refine q_blk (lv2 := [(0, vr s), (1, vi pl), (2, vi (s9 + z9)), (3, vi (i + 1)), (4, vr (b + 6 + 3 * (Int.toNat i)))]) (st2 := []) kX5_sumOf_50 rfl ?_
        refine q_goto (tgt := 4) eX5_sumOf_53 (by decide) ?_
        refine q_sub (lv2 := [(0, vr s), (1, vi pl), (2, vi (s9 + z9)), (3, vi (i + 1))]) [0, 1, 2, 3] rfl ?_
        exact ih1 (s9 + z9) (i + 1) h11 fg8 l8 (⟨⟨by omega, by omega⟩, by rw [gm_sm_s _ i0, ← hs]; unfold gm_pp; rw [if_pos (by omega)]; omega, hfr.tr F9, X9⟩) (by omega)
