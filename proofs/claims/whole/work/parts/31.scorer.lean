/-! CornerClaims$Scorer. -/
def gm_op (k a b : Int) : Int := if k = 2 then a + b else if k = 3 then a - b else if k = 4 then a * b else if b = 0 then 0 else Int.tdiv a b
def gm_li (L z : Int) : Int := if z < -L then -L else if L < z then L else z
theorem gm_li_r {L z : Int} (h : 0 ≤ L) : -L ≤ gm_li L z ∧ gm_li L z ≤ L := by unfold gm_li; split <;> (try split) <;> omega
def gm_lt (v : Int) : Prop := -1000000 ≤ v ∧ v ≤ 1000000
theorem gm_m6 {a b : Int} (ha : gm_lt a) (hb : gm_lt b) : -1000000000000 ≤ a * b ∧ a * b ≤ 1000000000000 := by
  obtain ⟨h1, h2⟩ := ha
  obtain ⟨h3, h4⟩ := hb
  have e1 : 0 ≤ (1000000 - a) * (1000000 - b) := Int.mul_nonneg (by omega) (by omega)
  have e2 : 0 ≤ (1000000 + a) * (1000000 + b) := Int.mul_nonneg (by omega) (by omega)
  have e3 : 0 ≤ (1000000 - a) * (1000000 + b) := Int.mul_nonneg (by omega) (by omega)
  have e4 : 0 ≤ (1000000 + a) * (1000000 - b) := Int.mul_nonneg (by omega) (by omega)
  grind
theorem gm_td6 {a b : Int} (ha : gm_lt a) : -1000000 ≤ Int.tdiv a b ∧ Int.tdiv a b ≤ 1000000 := by
  have h := Int.natAbs_tdiv_le_natAbs a b
  unfold gm_lt at ha
  omega
theorem gm_op_r {k a b : Int} (ha : gm_lt a) (hb : gm_lt b) : -1000000000000 ≤ gm_op k a b ∧ gm_op k a b ≤ 1000000000000 := by
  have h1 := gm_m6 ha hb
  have h2 := gm_td6 (b := b) ha
  unfold gm_lt at ha hb
  unfold gm_op
  split
  · omega
  · split
    · omega
    · split
      · omega
      · split <;> omega
def SK (f : Int → Int) (l : List Int) : Prop := ∀ (k : Nat) (v : Int), l[k]? = some v → f ((l.length : Int) - 1 - k) = v
/-- the scorer: five figures, a stack -/
def SCD (h : AH) (s b : Nat) (fg : Int → Int) (l : List Int) : Prop := ∃ f, h.1 s = some (4, 4, am_L [0, 0, 0, (l.length : Int)], am_G [some b, some (s + 1), some (s + 2), none]) ∧ h.1 (s + 1) = some (100, 5, fg, am_N) ∧ h.1 (s + 2) = some (100, 16, f, am_N) ∧ SK f l ∧ l.length ≤ 16
theorem SCD.ob {h : AH} {s b : Nat} {fg : Int → Int} {l : List Int} (hS : SCD h s b fg l) : am_ob h s 4 := by
  obtain ⟨f, c, -⟩ := hS
  exact ⟨_, _, _, c⟩
theorem SCD.kept {h h1 : AH} {s b lo hi : Nat} {fg : Int → Int} {l : List Int} (hS : SCD h s b fg l) (f : am_fr h h1 lo hi) (hd : s + 3 ≤ lo ∨ hi ≤ s) : SCD h1 s b fg l := by
  obtain ⟨g, c1, c2, c3, c4⟩ := hS
  exact ⟨g, (f.2 _ (by omega)).trans c1, (f.2 _ (by omega)).trans c2, (f.2 _ (by omega)).trans c3, c4⟩
theorem SK.push {f : Int → Int} {l : List Int} {v : Int} (h : SK f l) : SK (am_uI f (l.length : Int) v) (v :: l) := by
  intro k u hk
  cases k with
  | zero =>
    have : v = u := by simpa using hk
    subst this
    rw [show (((v :: l).length : Nat) : Int) - 1 - ((0 : Nat) : Int) = (l.length : Int) by simp]
    exact am_uI_at _ _ _
  | succ k =>
    rw [List.getElem?_cons_succ] at hk
    have hl : k < l.length := (List.getElem?_eq_some_iff.mp hk).1
    rw [show (((v :: l).length : Nat) : Int) - 1 - ((k + 1 : Nat) : Int) = (l.length : Int) - 1 - k by simp; omega, am_uI_ne _ _ (by omega)]
    exact h k u hk
theorem SK.pop {f : Int → Int} {l : List Int} {v : Int} (h : SK f (v :: l)) : f (l.length : Int) = v ∧ SK f l := by
  constructor
  · have := h 0 v rfl
    rwa [show (((v :: l).length : Nat) : Int) - 1 - ((0 : Nat) : Int) = (l.length : Int) by simp] at this
  · intro k u hk
    have := h (k + 1) u (by rw [List.getElem?_cons_succ]; exact hk)
    rwa [show (((v :: l).length : Nat) : Int) - 1 - ((k + 1 : Nat) : Int) = (l.length : Int) - 1 - k by simp; omega] at this

set_option maxHeartbeats 1000000 in
theorem c_X5_push {w : am_w} {h : AH} {s b : Nat} {fg : Int → Int} {l : List Int} (hS : SCD h s b fg l) (h16 : l.length < 16) {v : Int} : AE w m_X5_push 1 [vr s, vi v] h (am_unit (fun h1 => SCD h1 s b fg (v :: l) ∧ am_fr h h1 s (s + 3))) := by
  refine AE.of wf_X5_push (Nat.le_of_ble_eq_true rfl) (am_ok_v) ?_
  obtain ⟨f, c1, c2, c3, hk, hl⟩ := id hS
  refine q_blk (lv2 := [(0, vr s), (1, vi v)]) (st2 := [vr s]) kX5_push_0 rfl ?_
  refine q_gi eX5_push_1 fl_RX5_18 (Or.inl rfl) c1 (z := (l.length : Int)) rfl ?_
  refine AQ.of (AS.if_lt_f eX5_push_4 (by first | assumption | exact ⟨by omega, by omega⟩) (by omega) (by decide)) ?_
  refine q_blk (lv2 := [(0, vr s), (1, vi v)]) (st2 := [vr s]) kX5_push_7 rfl ?_
  refine q_gi eX5_push_8 fl_RX5_18 (Or.inl rfl) c1 (z := (l.length : Int)) rfl ?_
  refine q_blk (lv2 := [(0, vr s), (1, vi v)]) (st2 := [vr s, vi (l.length : Int)]) kX5_push_11 rfl ?_
  refine q_gr eX5_push_12 fl_RX5_15 (Or.inr ⟨_, rfl⟩) c1 rfl ?_
  refine q_al eX5_push_15 c3 (by decide) ?_
  refine AQ.of (AS.ic_ge_f eX5_push_16 (by first | assumption | exact ⟨by omega, by omega⟩) ⟨by decide, by decide⟩ (by omega) (by decide)) ?_
  refine q_blk (lv2 := [(0, vr s), (1, vi v)]) (st2 := [vr s]) kX5_push_19 rfl ?_
  refine q_gr eX5_push_20 fl_RX5_15 (Or.inr ⟨_, rfl⟩) c1 rfl ?_
  refine q_blk (lv2 := [(0, vr s), (1, vi v)]) (st2 := [vr s, vr (s + 2)]) kX5_push_23 rfl ?_
  refine q_gi eX5_push_24 fl_RX5_18 (Or.inl rfl) c1 (z := (l.length : Int)) rfl ?_
  refine q_blk (lv2 := [(0, vr s), (1, vi v)]) (st2 := [vi v, vi (l.length : Int), vr (s + 2)]) kX5_push_27 rfl ?_
  refine q_is eX5_push_28 c3 (by omega) (by omega) (fun h1 e2 => ?_)
  have k3 := (am_ne e2 s (by omega)).trans c1
  have k4 := (am_ne e2 (s + 1) (by omega)).trans c2
  have k5 := am_at e2
  refine q_blk (lv2 := [(0, vr s), (1, vi v)]) (st2 := [vr s, vr s]) kX5_push_29 rfl ?_
  refine q_gi eX5_push_31 fl_RX5_18 (Or.inl rfl) k3 (z := (l.length : Int)) rfl ?_
  refine q_blk (lv2 := [(0, vr s), (1, vi v)]) (st2 := [vi ((l.length : Int) + 1), vr s]) kX5_push_34 rfl ?_
  refine q_pi eX5_push_36 fl_RX5_18 (fun q hq => by cases hq; exact Or.inl rfl) (Or.inl rfl) k3 (Nat.le_of_ble_eq_true rfl) (l2 := [0, 0, 0, ((l.length : Int) + 1)]) rfl (fun h6 e7 => ?_)
  have k8 := am_at e7
  have k9 := (am_ne e7 (s + 1) (by omega)).trans k4
  have k10 := (am_ne e7 (s + 2) (by omega)).trans k5
  exact q_rv rfl eX5_push_39 ⟨rfl, ⟨_, by rw [show ((((v :: l).length : Nat)) : Int) = (l.length : Int) + 1 by simp]; exact k8, k9, k10, hk.push, by simp; omega⟩, ((am_fr.st e2 (by omega) (by omega)).tr (am_fr.st e7 (by omega) (by omega)))⟩

set_option maxHeartbeats 1000000 in
theorem c_X5_pop {w : am_w} {h : AH} {s b : Nat} {fg : Int → Int} {l : List Int} {v : Int} (hS : SCD h s b fg (v :: l)) : AE w m_X5_pop 1 [vr s] h (am_int (fun z h1 => z = v ∧ SCD h1 s b fg l ∧ am_fr h h1 s (s + 3))) := by
  refine AE.of wf_X5_pop (Nat.le_of_ble_eq_true rfl) (am_ok_i) ?_
  obtain ⟨f, c1, c2, c3, hk, hl⟩ := id hS
  have e9 : (((v :: l).length : Nat) : Int) = (l.length : Int) + 1 := by simp
  have hl2 : l.length ≤ 15 := by simp at hl; omega
  refine q_blk (lv2 := [(0, vr s)]) (st2 := [vr s]) kX5_pop_0 rfl ?_
  refine q_gi eX5_pop_1 fl_RX5_18 (Or.inl rfl) c1 (z := ((v :: l).length : Int)) rfl ?_
  refine AQ.of (AS.if_le_f eX5_pop_4 (by first | assumption | exact ⟨by omega, by omega⟩) (by omega) (by decide)) ?_
  refine q_blk (lv2 := [(0, vr s)]) (st2 := [vr s]) kX5_pop_7 rfl ?_
  refine q_gi eX5_pop_8 fl_RX5_18 (Or.inl rfl) c1 (z := ((v :: l).length : Int)) rfl ?_
  refine q_blk (lv2 := [(0, vr s)]) (st2 := [vr s, vi ((v :: l).length : Int)]) kX5_pop_11 rfl ?_
  refine q_gr eX5_pop_12 fl_RX5_15 (Or.inr ⟨_, rfl⟩) c1 rfl ?_
  refine q_al eX5_pop_15 c3 (by decide) ?_
  refine AQ.of (AS.ic_le_t (tgt := 21) eX5_pop_16 (by decide) (by first | assumption | exact ⟨by omega, by omega⟩) ⟨by decide, by decide⟩ (by omega)) ?_
  refine q_blk (lv2 := [(0, vr s)]) (st2 := [vr s, vr s]) kX5_pop_21 rfl ?_
  refine q_gi eX5_pop_23 fl_RX5_18 (Or.inl rfl) c1 (z := ((v :: l).length : Int)) rfl ?_
  refine q_blk (lv2 := [(0, vr s)]) (st2 := [vi (((v :: l).length : Int) - 1), vr s]) kX5_pop_26 rfl ?_
  refine q_pi eX5_pop_28 fl_RX5_18 (fun q hq => by cases hq; exact Or.inl rfl) (Or.inl rfl) c1 (Nat.le_of_ble_eq_true rfl) (l2 := [0, 0, 0, (((v :: l).length : Int) - 1)]) rfl (fun h1 e2 => ?_)
  have k3 := am_at e2
  have k4 := (am_ne e2 (s + 1) (by omega)).trans c2
  have k5 := (am_ne e2 (s + 2) (by omega)).trans c3
  refine q_blk (lv2 := [(0, vr s)]) (st2 := [vr s]) kX5_pop_31 rfl ?_
  refine q_gr eX5_pop_32 fl_RX5_15 (Or.inr ⟨_, rfl⟩) k3 rfl ?_
  refine q_blk (lv2 := [(0, vr s)]) (st2 := [vr s, vr (s + 2)]) kX5_pop_35 rfl ?_
  refine q_gi eX5_pop_36 fl_RX5_18 (Or.inl rfl) k3 (z := (((v :: l).length : Int) - 1)) rfl ?_
  refine q_ia eX5_pop_39 k5 (by decide) (by omega) (by omega) (z := (f (((v :: l).length : Int) - 1))) rfl ?_
  exact q_ri rfl eX5_pop_40 ⟨(f (((v :: l).length : Int) - 1)), rfl, by rw [show (((v :: l).length : Nat) : Int) - 1 = (l.length : Int) by omega]; exact hk.pop.1, ⟨_, by rw [show (l.length : Int) = (((v :: l).length : Nat) : Int) - 1 by omega]; exact k3, k4, k5, hk.pop.2, by omega⟩, (am_fr.st e2 (by omega) (by omega))⟩

set_option maxHeartbeats 1000000 in
theorem c_X5_setFigure {w : am_w} {h : AH} {s b : Nat} {fg : Int → Int} {l : List Int} (hS : SCD h s b fg l) {p v : Int} (p0 : -5 ≤ p) (p1 : p ≤ -1) : AE w m_X5_setFigure 1 [vr s, vi p, vi v] h (am_unit (fun h1 => SCD h1 s b (am_uI fg (-1 - p) v) l ∧ am_fr h h1 s (s + 3))) := by
  refine AE.of wf_X5_setFigure (Nat.le_of_ble_eq_true rfl) (am_ok_v) ?_
  obtain ⟨f, c1, c2, c3, hk, hl⟩ := id hS
  refine q_blk (lv2 := [(0, vr s), (1, vi p), (2, vi v), (3, vi ((-1) - p))]) (st2 := [vi ((-1) - p)]) kX5_setFigure_0 rfl ?_
  refine AQ.of (AS.if_lt_f eX5_setFigure_5 (by first | assumption | exact ⟨by omega, by omega⟩) (by omega) (by decide)) ?_
  refine q_blk (lv2 := [(0, vr s), (1, vi p), (2, vi v), (3, vi ((-1) - p))]) (st2 := [vr s, vi ((-1) - p)]) kX5_setFigure_8 rfl ?_
  refine q_gr eX5_setFigure_10 fl_RX5_9 (Or.inr ⟨_, rfl⟩) c1 rfl ?_
  refine q_al eX5_setFigure_13 c2 (by decide) ?_
  refine AQ.of (AS.ic_ge_f eX5_setFigure_14 (by first | assumption | exact ⟨by omega, by omega⟩) ⟨by decide, by decide⟩ (by omega) (by decide)) ?_
  refine q_blk (lv2 := [(0, vr s), (1, vi p), (2, vi v), (3, vi ((-1) - p))]) (st2 := [vr s]) kX5_setFigure_17 rfl ?_
  refine q_gr eX5_setFigure_18 fl_RX5_9 (Or.inr ⟨_, rfl⟩) c1 rfl ?_
  refine q_blk (lv2 := [(0, vr s), (1, vi p), (2, vi v), (3, vi ((-1) - p))]) (st2 := [vi v, vi ((-1) - p), vr (s + 1)]) kX5_setFigure_21 rfl ?_
  refine q_is eX5_setFigure_23 c2 (by omega) (by omega) (fun h1 e2 => ?_)
  have k3 := (am_ne e2 s (by omega)).trans c1
  have k4 := am_at e2
  have k5 := (am_ne e2 (s + 2) (by omega)).trans c3
  exact q_rv rfl eX5_setFigure_24 ⟨rfl, ⟨_, k3, k4, k5, hk, hl⟩, (am_fr.st e2 (by omega) (by omega))⟩

set_option maxHeartbeats 1000000 in
theorem c_X5_limited {w : am_w} {h : AH} {v L : Int} (v0 : -2000000000000 ≤ v) (v1 : v ≤ 2000000000000) (L0 : 0 ≤ L) (L1 : L ≤ 1000000) : AE w m_X5_limited 1 [vl v, vi L] h (am_intp h (fun z => z = gm_li L v)) := by
  refine AE.of wf_X5_limited (Nat.le_of_ble_eq_true rfl) (am_ok_ip) ?_
  refine q_blk (lv2 := [(0, vl v), (2, vi L)]) (st2 := [vi (-L)]) kX5_limited_0 rfl ?_
  refine AQ.of (AS.i2l eX5_limited_2 (by first | assumption | exact ⟨by omega, by omega⟩)) ?_
  refine q_blk (lv2 := [(0, vl v), (2, vi L)]) (st2 := [vi L, vl (-L)]) kX5_limited_3 rfl ?_
  refine AQ.of (AS.i2l eX5_limited_4 (by first | assumption | exact ⟨by omega, by omega⟩)) ?_
  refine q_blk (lv2 := [(0, vl v), (2, vi L)]) (st2 := [vl v, vl L, vl (-L)]) kX5_limited_5 rfl ?_
  refine AQ.of (AS.mminL eX5_limited_6 (by first | assumption | exact ⟨by omega, by omega⟩) (by first | assumption | exact ⟨by omega, by omega⟩) (am_gw 483 (by decide +kernel) (by decide +kernel)) (am_gw 484 (by decide +kernel) (by decide +kernel)) (am_gw 102 (by decide +kernel) (by decide +kernel)) (am_gw 485 (by decide +kernel) (by decide +kernel)) (by decide) (Nat.le_of_ble_eq_true rfl)) ?_
  obtain ⟨z1, e2⟩ : ∃ q : Int, q = (if v < L then v else L) := ⟨_, rfl⟩
  rw [← e2]
  refine AQ.of (AS.mmaxL eX5_limited_9 (by first | assumption | exact ⟨by omega, by omega⟩) (by first | assumption | exact ⟨by omega, by omega⟩) (am_gw 486 (by decide +kernel) (by decide +kernel)) (am_gw 487 (by decide +kernel) (by decide +kernel)) (am_gw 102 (by decide +kernel) (by decide +kernel)) (am_gw 488 (by decide +kernel) (by decide +kernel)) (by decide) (Nat.le_of_ble_eq_true rfl)) ?_
  obtain ⟨z3, e4⟩ : ∃ q : Int, q = (if z1 < (-L) then (-L) else z1) := ⟨_, rfl⟩
  rw [← e4]
  refine AQ.of (AS.l2i eX5_limited_12) ?_
  exact q_ri rfl eX5_limited_13 ⟨z3, rfl, by unfold gm_li; split <;> (try split) <;> omega, rfl⟩

set_option maxHeartbeats 1000000 in
theorem c_X5_resultOf {w : am_w} {h : AH} {k a b : Int} (k0 : -9 ≤ k) (k1 : k ≤ -6) (ha : gm_lt a) (hb : gm_lt b) : AE w m_X5_resultOf 1 [vi k, vi a, vi b] h (am_lngp h (fun z => z = gm_op (-4 - k) a b)) := by
  refine AE.of wf_X5_resultOf (Nat.le_of_ble_eq_true rfl) (am_ok_lp) ?_
  have td := gm_td6 (b := b) ha
  have ha9 := ha
  have hb9 := hb
  unfold gm_lt at ha9 hb9
  refine q_blk (lv2 := [(0, vi k), (1, vi a), (2, vi b)]) (st2 := [vi k]) kX5_resultOf_0 rfl ?_
  rcases (show k = -8 ∨ k = -7 ∨ k = -6 ∨ (k < -8 ∨ -6 < k) by omega) with sw1 | sw1 | sw1 | sw1
  · skip
    refine AQ.of (AS.tabIn (z := k) (off := 39) (tgt := 40) eX5_resultOf_1 (by first | assumption | exact ⟨by omega, by omega⟩) (by omega) (by omega) (by rw [sw1]; rfl) (by decide)) ?_
    refine q_blk (lv2 := [(0, vi k), (1, vi a), (2, vi b)]) (st2 := [vi a]) kX5_resultOf_40 rfl ?_
    refine AQ.of (AS.i2l eX5_resultOf_41 (by first | assumption | exact ⟨by omega, by omega⟩)) ?_
    refine q_blk (lv2 := [(0, vi k), (1, vi a), (2, vi b)]) (st2 := [vi b, vl a]) kX5_resultOf_42 rfl ?_
    refine AQ.of (AS.i2l eX5_resultOf_43 (by first | assumption | exact ⟨by omega, by omega⟩)) ?_
    refine q_blk (lv2 := [(0, vi k), (1, vi a), (2, vi b)]) (st2 := [vl (a * b)]) kX5_resultOf_44 rfl ?_
    exact q_rl rfl eX5_resultOf_45 ⟨(a * b), rfl, by unfold gm_op; (repeat' split) <;> first | omega | rfl | (exfalso; omega), rfl⟩
  · skip
    refine AQ.of (AS.tabIn (z := k) (off := 33) (tgt := 34) eX5_resultOf_1 (by first | assumption | exact ⟨by omega, by omega⟩) (by omega) (by omega) (by rw [sw1]; rfl) (by decide)) ?_
    refine q_blk (lv2 := [(0, vi k), (1, vi a), (2, vi b)]) (st2 := [vi a]) kX5_resultOf_34 rfl ?_
    refine AQ.of (AS.i2l eX5_resultOf_35 (by first | assumption | exact ⟨by omega, by omega⟩)) ?_
    refine q_blk (lv2 := [(0, vi k), (1, vi a), (2, vi b)]) (st2 := [vi b, vl a]) kX5_resultOf_36 rfl ?_
    refine AQ.of (AS.i2l eX5_resultOf_37 (by first | assumption | exact ⟨by omega, by omega⟩)) ?_
    refine q_blk (lv2 := [(0, vi k), (1, vi a), (2, vi b)]) (st2 := [vl (a - b)]) kX5_resultOf_38 rfl ?_
    exact q_rl rfl eX5_resultOf_39 ⟨(a - b), rfl, by unfold gm_op; (repeat' split) <;> first | omega | rfl | (exfalso; omega), rfl⟩
  · skip
    refine AQ.of (AS.tabIn (z := k) (off := 27) (tgt := 28) eX5_resultOf_1 (by first | assumption | exact ⟨by omega, by omega⟩) (by omega) (by omega) (by rw [sw1]; rfl) (by decide)) ?_
    refine q_blk (lv2 := [(0, vi k), (1, vi a), (2, vi b)]) (st2 := [vi a]) kX5_resultOf_28 rfl ?_
    refine AQ.of (AS.i2l eX5_resultOf_29 (by first | assumption | exact ⟨by omega, by omega⟩)) ?_
    refine q_blk (lv2 := [(0, vi k), (1, vi a), (2, vi b)]) (st2 := [vi b, vl a]) kX5_resultOf_30 rfl ?_
    refine AQ.of (AS.i2l eX5_resultOf_31 (by first | assumption | exact ⟨by omega, by omega⟩)) ?_
    refine q_blk (lv2 := [(0, vi k), (1, vi a), (2, vi b)]) (st2 := [vl (a + b)]) kX5_resultOf_32 rfl ?_
    exact q_rl rfl eX5_resultOf_33 ⟨(a + b), rfl, by unfold gm_op; (repeat' split) <;> first | omega | rfl | (exfalso; omega), rfl⟩
  · skip
    refine AQ.of (AS.tabOut (z := k) (tgt := 46) eX5_resultOf_1 (by first | assumption | exact ⟨by omega, by omega⟩) sw1 (by decide)) ?_
    refine q_blk (lv2 := [(0, vi k), (1, vi a), (2, vi b)]) (st2 := [vi b]) kX5_resultOf_46 rfl ?_
    refine AQ.if_ne (tgt := 54) eX5_resultOf_47 (by decide) (by first | assumption | exact ⟨by omega, by omega⟩) (fun br2 => ?_) (fun br2 => ?_)
    · skip
      refine q_blk (lv2 := [(0, vi k), (1, vi a), (2, vi b)]) (st2 := [vi b, vi a]) kX5_resultOf_54 rfl ?_
      refine AQ.of (AS.idiv eX5_resultOf_56 (by first | assumption | exact ⟨by omega, by omega⟩) (by first | assumption | exact ⟨by omega, by omega⟩) (by omega)) ?_
      refine AQ.of (AS.i2l eX5_resultOf_57 (by first | assumption | exact ⟨by omega, by omega⟩)) ?_
      exact q_rl rfl eX5_resultOf_58 ⟨(Int.tdiv a b), rfl, by unfold gm_op; (repeat' split) <;> first | omega | rfl | (exfalso; omega), rfl⟩
    · skip
      refine q_blk (lv2 := [(0, vi k), (1, vi a), (2, vi b)]) (st2 := [vl 0]) kX5_resultOf_50 rfl ?_
      refine q_goto (tgt := 58) eX5_resultOf_51 (by decide) ?_
      exact q_rl rfl eX5_resultOf_58 ⟨0, rfl, by unfold gm_op; (repeat' split) <;> first | omega | rfl | (exfalso; omega), rfl⟩

set_option maxHeartbeats 1000000 in
theorem c_X5_doStep0 {w : am_w} {h : AH} {s b : Nat} {fg : Int → Int} {l : List Int} {k a9 b9 : Int} (hS : SCD h s b fg l) (k0 : 0 ≤ k) (k1 : k ≤ 9999) (hlen : l.length < 16) : AE w m_X5_doStep 3 [vr s, vi k] h (am_unit (fun h1 => SCD h1 s b fg (k :: l) ∧ am_fr h h1 s (s + 3))) := by
  refine AE.of wf_X5_doStep (Nat.le_of_ble_eq_true rfl) (am_ok_v) ?_
  obtain ⟨f, c1, c2, c3, hk, hl⟩ := id hS
  refine q_blk (lv2 := [(0, vr s), (1, vi k), (2, vi ((-1) - k))]) (st2 := [vi ((-1) - k)]) kX5_doStep_0 rfl ?_
  refine AQ.of (AS.if_ge_f eX5_doStep_5 (by first | assumption | exact ⟨by omega, by omega⟩) (by omega) (by decide)) ?_
  refine q_blk (lv2 := [(0, vr s), (1, vi k), (2, vi ((-1) - k))]) (st2 := [vi k, vr s]) kX5_doStep_8 rfl ?_
  refine AQ.callVv (av := [vi k]) (st := []) (c_X5_push hS (by first | omega | (simp at hlen ⊢; omega))) lk_RX5_83 (by decide) rfl rfl hS.ob ⟨_, rfl, rfl⟩ (Nat.le_of_ble_eq_true rfl) eX5_doStep_10 (fun h3 e2 => ?_)
  obtain ⟨Xh3, Fh3⟩ := e2
  obtain ⟨g4, g4a, g4b, g4c, g4d, g4e⟩ := id Xh3
  refine q_goto (tgt := 65) eX5_doStep_13 (by decide) ?_
  exact q_rv rfl eX5_doStep_65 ⟨rfl, Xh3, (am_fr.rf.tr Fh3)⟩

set_option maxHeartbeats 1000000 in
theorem c_X5_doStep1 {w : am_w} {h : AH} {s b : Nat} {fg : Int → Int} {l : List Int} {k a9 b9 : Int} (hS : SCD h s b fg l) (k0 : -5 ≤ k) (k1 : k ≤ -1) (hlen : l.length < 16) : AE w m_X5_doStep 3 [vr s, vi k] h (am_unit (fun h1 => SCD h1 s b fg (fg (-1 - k) :: l) ∧ am_fr h h1 s (s + 3))) := by
  refine AE.of wf_X5_doStep (Nat.le_of_ble_eq_true rfl) (am_ok_v) ?_
  obtain ⟨f, c1, c2, c3, hk, hl⟩ := id hS
  refine q_blk (lv2 := [(0, vr s), (1, vi k), (2, vi ((-1) - k))]) (st2 := [vi ((-1) - k)]) kX5_doStep_0 rfl ?_
  refine AQ.of (AS.if_ge_t (tgt := 16) eX5_doStep_5 (by decide) (by first | assumption | exact ⟨by omega, by omega⟩) (by omega)) ?_
  refine q_blk (lv2 := [(0, vr s), (1, vi k), (2, vi ((-1) - k))]) (st2 := [vr s, vi ((-1) - k)]) kX5_doStep_16 rfl ?_
  refine q_gr eX5_doStep_18 fl_RX5_9 (Or.inr ⟨_, rfl⟩) c1 rfl ?_
  refine q_al eX5_doStep_21 c2 (by decide) ?_
  refine AQ.of (AS.ic_ge_f eX5_doStep_22 (by first | assumption | exact ⟨by omega, by omega⟩) ⟨by decide, by decide⟩ (by omega) (by decide)) ?_
  refine q_blk (lv2 := [(0, vr s), (1, vi k), (2, vi ((-1) - k))]) (st2 := [vr s, vr s]) kX5_doStep_25 rfl ?_
  refine q_gr eX5_doStep_27 fl_RX5_9 (Or.inr ⟨_, rfl⟩) c1 rfl ?_
  refine q_blk (lv2 := [(0, vr s), (1, vi k), (2, vi ((-1) - k))]) (st2 := [vi ((-1) - k), vr (s + 1), vr s]) kX5_doStep_30 rfl ?_
  refine q_ia eX5_doStep_31 c2 (by decide) (by omega) (by omega) (z := (fg ((-1) - k))) rfl ?_
  refine AQ.callVv (av := [vi (fg ((-1) - k))]) (st := []) (c_X5_push hS (by first | omega | (simp at hlen ⊢; omega))) lk_RX5_83 (by decide) rfl rfl hS.ob ⟨_, rfl, rfl⟩ (Nat.le_of_ble_eq_true rfl) eX5_doStep_32 (fun h3 e2 => ?_)
  obtain ⟨Xh3, Fh3⟩ := e2
  obtain ⟨g4, g4a, g4b, g4c, g4d, g4e⟩ := id Xh3
  refine q_goto (tgt := 65) eX5_doStep_35 (by decide) ?_
  exact q_rv rfl eX5_doStep_65 ⟨rfl, Xh3, (am_fr.rf.tr Fh3)⟩

set_option maxHeartbeats 1000000 in
theorem c_X5_doStep2 {w : am_w} {h : AH} {s b : Nat} {fg : Int → Int} {l : List Int} {k a9 b9 : Int} (hS : SCD h s b fg (b9 :: a9 :: l)) (k0 : -9 ≤ k) (k1 : k ≤ -6) (ha : gm_lt a9) (hb : gm_lt b9) : AE w m_X5_doStep 3 [vr s, vi k] h (am_unit (fun h1 => SCD h1 s b fg (gm_li 1000000 (gm_op (-4 - k) a9 b9) :: l) ∧ am_fr h h1 s (s + 3))) := by
  refine AE.of wf_X5_doStep (Nat.le_of_ble_eq_true rfl) (am_ok_v) ?_
  obtain ⟨f, c1, c2, c3, hk, hl⟩ := id hS
  have hlen : l.length < 16 := by simp at hl; omega
  have ha9 := ha
  have hb9 := hb
  unfold gm_lt at ha9 hb9
  refine q_blk (lv2 := [(0, vr s), (1, vi k), (2, vi ((-1) - k))]) (st2 := [vi ((-1) - k)]) kX5_doStep_0 rfl ?_
  refine AQ.of (AS.if_ge_t (tgt := 16) eX5_doStep_5 (by decide) (by first | assumption | exact ⟨by omega, by omega⟩) (by omega)) ?_
  refine q_blk (lv2 := [(0, vr s), (1, vi k), (2, vi ((-1) - k))]) (st2 := [vr s, vi ((-1) - k)]) kX5_doStep_16 rfl ?_
  refine q_gr eX5_doStep_18 fl_RX5_9 (Or.inr ⟨_, rfl⟩) c1 rfl ?_
  refine q_al eX5_doStep_21 c2 (by decide) ?_
  refine AQ.of (AS.ic_ge_t (tgt := 38) eX5_doStep_22 (by decide) (by first | assumption | exact ⟨by omega, by omega⟩) ⟨by decide, by decide⟩ (by omega)) ?_
  refine q_blk (lv2 := [(0, vr s), (1, vi k), (2, vi ((-1) - k))]) (st2 := [vr s]) kX5_doStep_38 rfl ?_
  refine AQ.callVi (av := []) (st := []) (c_X5_pop hS) lk_RX5_75 (by decide) rfl rfl hS.ob ⟨_, rfl, rfl⟩ (Nat.le_of_ble_eq_true rfl) eX5_doStep_39 (fun z1 h3 e2 => ?_)
  obtain ⟨qe2, e2⟩ := e2
  obtain ⟨Xh3, Fh3⟩ := e2
  obtain ⟨g4, g4a, g4b, g4c, g4d, g4e⟩ := id Xh3
  have hz2 : z1 = b9 := qe2
  refine q_blk (lv2 := [(0, vr s), (1, vi k), (2, vi ((-1) - k)), (3, vi z1)]) (st2 := [vr s]) kX5_doStep_42 rfl ?_
  refine AQ.callVi (av := []) (st := []) (c_X5_pop Xh3) lk_RX5_75 (by decide) rfl rfl Xh3.ob ⟨_, rfl, rfl⟩ (Nat.le_of_ble_eq_true rfl) eX5_doStep_44 (fun z5 h7 e6 => ?_)
  obtain ⟨qe6, e6⟩ := e6
  obtain ⟨Xh7, Fh7⟩ := e6
  obtain ⟨g8, g8a, g8b, g8c, g8d, g8e⟩ := id Xh7
  have hz1 : z5 = a9 := qe6
  refine q_blk (lv2 := [(0, vr s), (1, vi k), (2, vi ((-1) - k)), (3, vi z1), (4, vi z5)]) (st2 := [vi z1, vi z5, vi k, vr s]) kX5_doStep_47 rfl ?_
  refine q_Sl (av := [vi k, vi z5, vi z1]) (st := [vr s]) (c_X5_resultOf (by omega) (by omega) (by first | assumption | (unfold gm_lt; omega)) (by first | assumption | (unfold gm_lt; omega))) lk_RX5_86 (by decide) rfl rfl (Nat.le_of_ble_eq_true rfl) eX5_doStep_54 (fun z9 e10 => ?_)
  have e10r := gm_op_r (k := -4 - k) ha hb
  have e10s := e10
  rw [hz1, hz2] at e10s
  rw [← e10s] at e10r
  refine AQ.of (AS.ldc (z := 1000000) eX5_doStep_57 (am_gw 479 (by decide +kernel) (by decide +kernel))) ?_
  refine q_Si (av := [vl z9, vi 1000000]) (st := [vr s]) (c_X5_limited (by omega) (by omega) (by omega) (by omega)) lk_RX5_79 (by decide) rfl rfl (Nat.le_of_ble_eq_true rfl) eX5_doStep_59 (fun z11 e12 => ?_)
  refine AQ.callVv (av := [vi z11]) (st := []) (c_X5_push Xh7 (by first | omega | (simp at hlen ⊢; omega))) lk_RX5_83 (by decide) rfl rfl Xh7.ob ⟨_, rfl, rfl⟩ (Nat.le_of_ble_eq_true rfl) eX5_doStep_62 (fun h15 e14 => ?_)
  obtain ⟨Xh15, Fh15⟩ := e14
  obtain ⟨g16, g16a, g16b, g16c, g16d, g16e⟩ := id Xh15
  exact q_rv rfl eX5_doStep_65 ⟨rfl, by rw [← e10s, ← e12]; exact Xh15, (((am_fr.rf.tr Fh3).tr Fh7).tr Fh15)⟩
