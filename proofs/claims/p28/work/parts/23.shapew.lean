/-! CornerClaims$Shape: what writes. -/
def gm_in (p x : Int) (xs : Int → Int) (k : Int) : Int := if k < p then xs k else if k = p then x else xs (k - 1)
def gm_ou (p : Int) (xs : Int → Int) (k : Int) : Int := if k < p then xs k else xs (k + 1)
theorem SX.kept {h h1 : AH} {a : Nat} {n cl ow : Int} {xs ys : Int → Int} {lo hi : Nat} (hS : SX h a n cl ow xs ys) (f : am_fr h h1 lo hi) (hd : a + 3 ≤ lo ∨ hi ≤ a) : SX h1 a n cl ow xs ys := by
  obtain ⟨fx, fy, ⟨c1, c2, c3⟩, h2⟩ := hS
  exact ⟨fx, fy, ⟨(f.2 _ (by omega)).trans c1, (f.2 _ (by omega)).trans c2, (f.2 _ (by omega)).trans c3⟩, h2⟩

theorem gm_in_ok {n p x y : Int} {xs ys gx gy : Int → Int} (p0 : 0 ≤ p) (p1 : p ≤ n) (hA : ∀ j, 0 ≤ j → j ≤ p → j < n → gx j = xs j ∧ gy j = ys j) (hB : ∀ j, p < j → j ≤ n → gx j = xs (j - 1) ∧ gy j = ys (j - 1)) {j : Int} (j0 : 0 ≤ j) (j1 : j < n + 1) : am_uI gx p x j = gm_in p x xs j ∧ am_uI gy p y j = gm_in p y ys j := by
  unfold am_uI gm_in
  by_cases e : j = p
  · subst e
    simp [Int.lt_irrefl]
  · rw [if_neg e, if_neg e, if_neg e, if_neg e]
    by_cases l : j < p
    · rw [if_pos l, if_pos l]
      exact hA j j0 (by omega) (by omega)
    · rw [if_neg l, if_neg l]
      exact hB j (by omega) (by omega)
theorem gm_sh_ok {n k : Int} {xs ys gx gy : Int → Int} (hA : ∀ j, 0 ≤ j → j ≤ k → j < n → gx j = xs j ∧ gy j = ys j) (hB : ∀ j, k < j → j ≤ n → gx j = xs (j - 1) ∧ gy j = ys (j - 1)) (k0 : 0 < k) (k1 : k ≤ n) :
    (∀ j, 0 ≤ j → j ≤ k - 1 → j < n → am_uI gx k (gx (k - 1)) j = xs j ∧ am_uI gy k (gy (k - 1)) j = ys j) ∧ ∀ j, k - 1 < j → j ≤ n → am_uI gx k (gx (k - 1)) j = xs (j - 1) ∧ am_uI gy k (gy (k - 1)) j = ys (j - 1) := by
  refine ⟨fun j j0 j1 j2 => ?_, fun j j0 j1 => ?_⟩
  · rw [am_uI_ne _ _ (by omega), am_uI_ne _ _ (by omega)]
    exact hA j j0 (by omega) j2
  · by_cases e : j = k
    · subst e
      rw [am_uI_at, am_uI_at]
      exact hA _ (by omega) (by omega) (by omega)
    · rw [am_uI_ne _ _ e, am_uI_ne _ _ e]
      exact hB j (by omega) j1

set_option maxHeartbeats 1000000 in
theorem c_X7_insert {w : am_w} {h : AH} {a : Nat} {n cl ow : Int} {xs ys : Int → Int} (hS : SX h a n cl ow xs ys) (hn : n < 12) {p x y : Int} (p0 : 0 ≤ p) (p1 : p ≤ n) : AE w m_X7_insert 1 [vr a, vi p, vi x, vi y] h (am_unit (fun h1 => SX h1 a (n + 1) cl ow (gm_in p x xs) (gm_in p y ys) ∧ am_fr h h1 a (a + 3))) := by
  refine AE.of wf_X7_insert (Nat.le_of_ble_eq_true rfl) (am_ok_v) ?_
  obtain ⟨fx, fy, hP, ⟨hn0, hn1⟩, hcl, hx⟩ := id hS
  refine q_blk (lv2 := [(0, vr a), (1, vi p), (2, vi x), (3, vi y)]) (st2 := [vr a]) kX7_insert_0 rfl ?_
  refine q_gi eX7_insert_1 fl_RX7_22 (Or.inl rfl) hP.1 (z := n) rfl ?_
  refine q_blk (lv2 := [(0, vr a), (1, vi p), (2, vi x), (3, vi y)]) (st2 := [vi 12, vi n]) kX7_insert_4 rfl ?_
  refine AQ.of (AS.ic_ge_f eX7_insert_6 (by first | assumption | exact ⟨by omega, by omega⟩) ⟨by decide, by decide⟩ (by omega) (by decide)) ?_
  refine q_blk (lv2 := [(0, vr a), (1, vi p), (2, vi x), (3, vi y)]) (st2 := [vi p]) kX7_insert_9 rfl ?_
  refine AQ.of (AS.if_lt_f eX7_insert_10 (by first | assumption | exact ⟨by omega, by omega⟩) (by omega) (by decide)) ?_
  refine q_blk (lv2 := [(0, vr a), (1, vi p), (2, vi x), (3, vi y)]) (st2 := [vr a, vi p]) kX7_insert_13 rfl ?_
  refine q_gi eX7_insert_15 fl_RX7_22 (Or.inl rfl) hP.1 (z := n) rfl ?_
  refine AQ.of (AS.ic_le_t (tgt := 22) eX7_insert_18 (by decide) (by first | assumption | exact ⟨by omega, by omega⟩) (by first | assumption | exact ⟨by omega, by omega⟩) (by omega)) ?_
  refine q_blk (lv2 := [(0, vr a), (1, vi p), (2, vi x), (3, vi y)]) (st2 := [vr a]) kX7_insert_22 rfl ?_
  refine q_gi eX7_insert_23 fl_RX7_22 (Or.inl rfl) hP.1 (z := n) rfl ?_
  refine q_blk (lv2 := [(0, vr a), (1, vi p), (2, vi x), (3, vi y), (4, vi n)]) (st2 := []) kX7_insert_26 rfl ?_
  refine am_lp4 (I := fun (k : Int) (hh : AH) (gx : Int → Int) (gy : Int → Int) => (p ≤ k ∧ k ≤ n) ∧ SP hh a n cl ow gx gy ∧ am_fr h hh a (a + 3) ∧ (∀ j, 0 ≤ j → j ≤ k → j < n → gx j = xs j ∧ gy j = ys j) ∧ ∀ j, k < j → j ≤ n → gx j = xs (j - 1) ∧ gy j = ys (j - 1)) (μ := fun (k : Int) (hh : AH) (gx : Int → Int) (gy : Int → Int) => k.toNat) (G := fun (k : Int) (hh : AH) (gx : Int → Int) (gy : Int → Int) => AQ w m_X7_insert 1 28 [(0, vr a), (1, vi p), (2, vi x), (3, vi y), (4, vi k)] [] hh (am_unit (fun h1 => SX h1 a (n + 1) cl ow (gm_in p x xs) (gm_in p y ys) ∧ am_fr h h1 a (a + 3)))) ?_ n h fx fy (⟨⟨by omega, by omega⟩, hP, am_fr.rf, fun j j0 j1 j2 => hx j j0 j2, fun j j0 j1 => by omega⟩)
  intro k hh gx gy hI2 ih1
  obtain ⟨⟨k0, k1⟩, ⟨c1, c2, c3⟩, hfr, hA, hB⟩ := hI2
  refine q_blk (lv2 := [(0, vr a), (1, vi p), (2, vi x), (3, vi y), (4, vi k)]) (st2 := [vi p, vi k]) kX7_insert_28 rfl ?_
  refine AQ.ic_le (tgt := 72) eX7_insert_31 (by decide) (by first | assumption | exact ⟨by omega, by omega⟩) (by first | assumption | exact ⟨by omega, by omega⟩) (fun br3 => ?_) (fun br3 => ?_)
  · skip
    have ek : k = p := by omega
    rw [ek] at hA hB
    refine q_blk (lv2 := [(0, vr a), (1, vi p), (2, vi x), (3, vi y), (4, vi k)]) (st2 := [vr a]) kX7_insert_72 rfl ?_
    refine q_gr eX7_insert_73 fl_RX7_9 (Or.inr ⟨_, rfl⟩) c1 rfl ?_
    refine q_blk (lv2 := [(0, vr a), (1, vi p), (2, vi x), (3, vi y), (4, vi k)]) (st2 := [vi x, vi p, vr (a + 1)]) kX7_insert_76 rfl ?_
    refine q_is eX7_insert_78 c2 (by omega) (by omega) (fun h4 e5 => ?_)
    have k6 := (am_ne e5 a (by omega)).trans c1
    have k7 := am_at e5
    have k8 := (am_ne e5 (a + 2) (by omega)).trans c3
    refine q_blk (lv2 := [(0, vr a), (1, vi p), (2, vi x), (3, vi y), (4, vi k)]) (st2 := [vr a]) kX7_insert_79 rfl ?_
    refine q_gr eX7_insert_80 fl_RX7_15 (Or.inr ⟨_, rfl⟩) k6 rfl ?_
    refine q_blk (lv2 := [(0, vr a), (1, vi p), (2, vi x), (3, vi y), (4, vi k)]) (st2 := [vi y, vi p, vr (a + 2)]) kX7_insert_83 rfl ?_
    refine q_is eX7_insert_85 k8 (by omega) (by omega) (fun h9 e10 => ?_)
    have k11 := (am_ne e10 a (by omega)).trans k6
    have k12 := (am_ne e10 (a + 1) (by omega)).trans k7
    have k13 := am_at e10
    refine q_blk (lv2 := [(0, vr a), (1, vi p), (2, vi x), (3, vi y), (4, vi k)]) (st2 := [vr a, vr a]) kX7_insert_86 rfl ?_
    refine q_gi eX7_insert_88 fl_RX7_22 (Or.inl rfl) k11 (z := n) rfl ?_
    refine q_blk (lv2 := [(0, vr a), (1, vi p), (2, vi x), (3, vi y), (4, vi k)]) (st2 := [vi (n + 1), vr a]) kX7_insert_91 rfl ?_
    refine q_pi eX7_insert_93 fl_RX7_22 (fun q hq => by cases hq; exact Or.inl rfl) (Or.inl rfl) k11 (Nat.le_of_ble_eq_true rfl) (l2 := [0, 0, ow, (n + 1), cl]) rfl (fun h14 e15 => ?_)
    have k16 := am_at e15
    have k17 := (am_ne e15 (a + 1) (by omega)).trans k12
    have k18 := (am_ne e15 (a + 2) (by omega)).trans k13
    exact q_rv rfl eX7_insert_96 ⟨rfl, ⟨⟨_, _, ⟨k16, k17, k18⟩, ⟨by omega, by omega⟩, hcl, fun j j0 j1 => gm_in_ok p0 p1 hA hB j0 j1⟩, hfr.tr (((am_fr.st e5 (by omega) (by omega)).tr (am_fr.st e10 (by omega) (by omega))).tr (am_fr.st e15 (by omega) (by omega)))⟩⟩
  · skip
    refine q_blk (lv2 := [(0, vr a), (1, vi p), (2, vi x), (3, vi y), (4, vi k)]) (st2 := [vr a]) kX7_insert_34 rfl ?_
    refine q_gr eX7_insert_35 fl_RX7_9 (Or.inr ⟨_, rfl⟩) c1 rfl ?_
    refine q_blk (lv2 := [(0, vr a), (1, vi p), (2, vi x), (3, vi y), (4, vi k)]) (st2 := [vr a, vi k, vr (a + 1)]) kX7_insert_38 rfl ?_
    refine q_gr eX7_insert_41 fl_RX7_9 (Or.inr ⟨_, rfl⟩) c1 rfl ?_
    refine q_blk (lv2 := [(0, vr a), (1, vi p), (2, vi x), (3, vi y), (4, vi k)]) (st2 := [vi (k - 1), vr (a + 1), vi k, vr (a + 1)]) kX7_insert_44 rfl ?_
    refine q_ia eX7_insert_48 c2 (by decide) (by omega) (by omega) (z := (gx (k - 1))) rfl ?_
    refine q_is eX7_insert_49 c2 (by omega) (by omega) (fun h19 e20 => ?_)
    have k21 := (am_ne e20 a (by omega)).trans c1
    have k22 := am_at e20
    have k23 := (am_ne e20 (a + 2) (by omega)).trans c3
    refine q_blk (lv2 := [(0, vr a), (1, vi p), (2, vi x), (3, vi y), (4, vi k)]) (st2 := [vr a]) kX7_insert_50 rfl ?_
    refine q_gr eX7_insert_51 fl_RX7_15 (Or.inr ⟨_, rfl⟩) k21 rfl ?_
    refine q_blk (lv2 := [(0, vr a), (1, vi p), (2, vi x), (3, vi y), (4, vi k)]) (st2 := [vr a, vi k, vr (a + 2)]) kX7_insert_54 rfl ?_
    refine q_gr eX7_insert_57 fl_RX7_15 (Or.inr ⟨_, rfl⟩) k21 rfl ?_
    refine q_blk (lv2 := [(0, vr a), (1, vi p), (2, vi x), (3, vi y), (4, vi k)]) (st2 := [vi (k - 1), vr (a + 2), vi k, vr (a + 2)]) kX7_insert_60 rfl ?_
    refine q_ia eX7_insert_64 k23 (by decide) (by omega) (by omega) (z := (gy (k - 1))) rfl ?_
    refine q_is eX7_insert_65 k23 (by omega) (by omega) (fun h24 e25 => ?_)
    have k26 := (am_ne e25 a (by omega)).trans k21
    have k27 := (am_ne e25 (a + 1) (by omega)).trans k22
    have k28 := am_at e25
    refine q_blk (lv2 := [(0, vr a), (1, vi p), (2, vi x), (3, vi y), (4, vi (k + (-1)))]) (st2 := []) kX7_insert_66 rfl ?_
    refine q_goto (tgt := 28) eX7_insert_69 (by decide) ?_
    exact ih1 (k + (-1)) h24 (am_uI gx k (gx (k - 1))) (am_uI gy k (gy (k - 1))) (⟨by omega, ⟨k26, k27, k28⟩, hfr.tr ((am_fr.st e20 (by omega) (by omega)).tr (am_fr.st e25 (by omega) (by omega))), (gm_sh_ok hA hB (by omega) (by omega)).1, (gm_sh_ok hA hB (by omega) (by omega)).2⟩) (by omega)

theorem gm_dn_ok {n k p : Int} {xs ys gx gy : Int → Int} (p0 : 0 ≤ p) (hA : ∀ j, 0 ≤ j → j < k - 1 → gx j = gm_ou p xs j ∧ gy j = gm_ou p ys j) (hB : ∀ j, k - 1 ≤ j → 0 ≤ j → j < n → gx j = xs j ∧ gy j = ys j) (k0 : p + 1 ≤ k) (k1 : k < n) :
    (∀ j, 0 ≤ j → j < k + 1 - 1 → am_uI gx (k - 1) (gx k) j = gm_ou p xs j ∧ am_uI gy (k - 1) (gy k) j = gm_ou p ys j) ∧ ∀ j, k + 1 - 1 ≤ j → 0 ≤ j → j < n → am_uI gx (k - 1) (gx k) j = xs j ∧ am_uI gy (k - 1) (gy k) j = ys j := by
  refine ⟨fun j j0 j1 => ?_, fun j j0 j1 j2 => ?_⟩
  · by_cases e : j = k - 1
    · subst e
      rw [am_uI_at, am_uI_at]
      unfold gm_ou
      rw [if_neg (by omega), if_neg (by omega), show k - 1 + 1 = k by omega]
      exact hB k (by omega) (by omega) k1
    · rw [am_uI_ne _ _ e, am_uI_ne _ _ e]
      exact hA j j0 (by omega)
  · rw [am_uI_ne _ _ (by omega), am_uI_ne _ _ (by omega)]
    exact hB j (by omega) j1 j2

set_option maxHeartbeats 1000000 in
theorem c_X7_dropCorner {w : am_w} {h : AH} {a : Nat} {n cl ow : Int} {xs ys : Int → Int} (hS : SX h a n cl ow xs ys) {p : Int} (p0 : 0 ≤ p) (p1 : p < n) : AE w m_X7_dropCorner 1 [vr a, vi p] h (am_unit (fun h1 => SX h1 a (n - 1) cl ow (gm_ou p xs) (gm_ou p ys) ∧ am_fr h h1 a (a + 3))) := by
  refine AE.of wf_X7_dropCorner (Nat.le_of_ble_eq_true rfl) (am_ok_v) ?_
  obtain ⟨fx, fy, hP, ⟨hn0, hn1⟩, hcl, hx⟩ := id hS
  refine q_blk (lv2 := [(0, vr a), (1, vi p)]) (st2 := [vi p]) kX7_dropCorner_0 rfl ?_
  refine AQ.of (AS.if_lt_f eX7_dropCorner_1 (by first | assumption | exact ⟨by omega, by omega⟩) (by omega) (by decide)) ?_
  refine q_blk (lv2 := [(0, vr a), (1, vi p)]) (st2 := [vr a, vi p]) kX7_dropCorner_4 rfl ?_
  refine q_gi eX7_dropCorner_6 fl_RX7_22 (Or.inl rfl) hP.1 (z := n) rfl ?_
  refine AQ.of (AS.ic_lt_t (tgt := 13) eX7_dropCorner_9 (by decide) (by first | assumption | exact ⟨by omega, by omega⟩) (by first | assumption | exact ⟨by omega, by omega⟩) (by omega)) ?_
  refine q_blk (lv2 := [(0, vr a), (1, vi p), (2, vi (p + 1))]) (st2 := []) kX7_dropCorner_13 rfl ?_
  refine am_lp4 (I := fun (k : Int) (hh : AH) (gx : Int → Int) (gy : Int → Int) => (p + 1 ≤ k ∧ k ≤ n) ∧ SP hh a n cl ow gx gy ∧ am_fr h hh a (a + 3) ∧ (∀ j, 0 ≤ j → j < k - 1 → gx j = gm_ou p xs j ∧ gy j = gm_ou p ys j) ∧ ∀ j, k - 1 ≤ j → 0 ≤ j → j < n → gx j = xs j ∧ gy j = ys j) (μ := fun (k : Int) (hh : AH) (gx : Int → Int) (gy : Int → Int) => (n - k).toNat) (G := fun (k : Int) (hh : AH) (gx : Int → Int) (gy : Int → Int) => AQ w m_X7_dropCorner 1 17 [(0, vr a), (1, vi p), (2, vi k)] [] hh (am_unit (fun h1 => SX h1 a (n - 1) cl ow (gm_ou p xs) (gm_ou p ys) ∧ am_fr h h1 a (a + 3)))) ?_ (p + 1) h fx fy (⟨⟨by omega, by omega⟩, hP, am_fr.rf, fun j j0 j1 => by unfold gm_ou; rw [if_pos (by omega), if_pos (by omega)]; exact hx j j0 (by omega), fun j j0 j1 j2 => hx j j1 j2⟩)
  intro k hh gx gy hI2 ih1
  obtain ⟨⟨k0, k1⟩, ⟨q1, q2, q3⟩, hfr, hA, hB⟩ := hI2
  refine q_blk (lv2 := [(0, vr a), (1, vi p), (2, vi k)]) (st2 := [vr a, vi k]) kX7_dropCorner_17 rfl ?_
  refine q_gi eX7_dropCorner_19 fl_RX7_22 (Or.inl rfl) q1 (z := n) rfl ?_
  refine AQ.ic_ge (tgt := 65) eX7_dropCorner_22 (by decide) (by first | assumption | exact ⟨by omega, by omega⟩) (by first | assumption | exact ⟨by omega, by omega⟩) (fun br3 => ?_) (fun br3 => ?_)
  · skip
    refine q_blk (lv2 := [(0, vr a), (1, vi p), (2, vi k)]) (st2 := [vr a, vr a]) kX7_dropCorner_65 rfl ?_
    refine q_gi eX7_dropCorner_67 fl_RX7_22 (Or.inl rfl) q1 (z := n) rfl ?_
    refine q_blk (lv2 := [(0, vr a), (1, vi p), (2, vi k)]) (st2 := [vi (n - 1), vr a]) kX7_dropCorner_70 rfl ?_
    refine q_pi eX7_dropCorner_72 fl_RX7_22 (fun q hq => by cases hq; exact Or.inl rfl) (Or.inl rfl) q1 (Nat.le_of_ble_eq_true rfl) (l2 := [0, 0, ow, (n - 1), cl]) rfl (fun h4 e5 => ?_)
    have k6 := am_at e5
    have k7 := (am_ne e5 (a + 1) (by omega)).trans q2
    have k8 := (am_ne e5 (a + 2) (by omega)).trans q3
    exact q_rv rfl eX7_dropCorner_75 ⟨rfl, ⟨⟨_, _, ⟨k6, k7, k8⟩, ⟨by omega, by omega⟩, hcl, fun j j0 j1 => hA j j0 (by omega)⟩, hfr.tr (am_fr.st e5 (by omega) (by omega))⟩⟩
  · skip
    refine q_blk (lv2 := [(0, vr a), (1, vi p), (2, vi k)]) (st2 := [vi 12, vi k]) kX7_dropCorner_25 rfl ?_
    refine AQ.of (AS.ic_ge_f eX7_dropCorner_28 (by first | assumption | exact ⟨by omega, by omega⟩) ⟨by decide, by decide⟩ (by omega) (by decide)) ?_
    refine q_blk (lv2 := [(0, vr a), (1, vi p), (2, vi k)]) (st2 := [vr a]) kX7_dropCorner_31 rfl ?_
    refine q_gr eX7_dropCorner_32 fl_RX7_9 (Or.inr ⟨_, rfl⟩) q1 rfl ?_
    refine q_blk (lv2 := [(0, vr a), (1, vi p), (2, vi k)]) (st2 := [vr a, vi (k - 1), vr (a + 1)]) kX7_dropCorner_35 rfl ?_
    refine q_gr eX7_dropCorner_39 fl_RX7_9 (Or.inr ⟨_, rfl⟩) q1 rfl ?_
    refine q_blk (lv2 := [(0, vr a), (1, vi p), (2, vi k)]) (st2 := [vi k, vr (a + 1), vi (k - 1), vr (a + 1)]) kX7_dropCorner_42 rfl ?_
    refine q_ia eX7_dropCorner_43 q2 (by decide) (by omega) (by omega) (z := (gx k)) rfl ?_
    refine q_is eX7_dropCorner_44 q2 (by omega) (by omega) (fun h9 e10 => ?_)
    have k11 := (am_ne e10 a (by omega)).trans q1
    have k12 := am_at e10
    have k13 := (am_ne e10 (a + 2) (by omega)).trans q3
    refine q_blk (lv2 := [(0, vr a), (1, vi p), (2, vi k)]) (st2 := [vr a]) kX7_dropCorner_45 rfl ?_
    refine q_gr eX7_dropCorner_46 fl_RX7_15 (Or.inr ⟨_, rfl⟩) k11 rfl ?_
    refine q_blk (lv2 := [(0, vr a), (1, vi p), (2, vi k)]) (st2 := [vr a, vi (k - 1), vr (a + 2)]) kX7_dropCorner_49 rfl ?_
    refine q_gr eX7_dropCorner_53 fl_RX7_15 (Or.inr ⟨_, rfl⟩) k11 rfl ?_
    refine q_blk (lv2 := [(0, vr a), (1, vi p), (2, vi k)]) (st2 := [vi k, vr (a + 2), vi (k - 1), vr (a + 2)]) kX7_dropCorner_56 rfl ?_
    refine q_ia eX7_dropCorner_57 k13 (by decide) (by omega) (by omega) (z := (gy k)) rfl ?_
    refine q_is eX7_dropCorner_58 k13 (by omega) (by omega) (fun h14 e15 => ?_)
    have k16 := (am_ne e15 a (by omega)).trans k11
    have k17 := (am_ne e15 (a + 1) (by omega)).trans k12
    have k18 := am_at e15
    refine q_blk (lv2 := [(0, vr a), (1, vi p), (2, vi (k + 1))]) (st2 := []) kX7_dropCorner_59 rfl ?_
    refine q_goto (tgt := 17) eX7_dropCorner_62 (by decide) ?_
    exact ih1 (k + 1) h14 (am_uI gx (k - 1) (gx k)) (am_uI gy (k - 1) (gy k)) (⟨by omega, ⟨k16, k17, k18⟩, hfr.tr ((am_fr.st e10 (by omega) (by omega)).tr (am_fr.st e15 (by omega) (by omega))), (gm_dn_ok p0 hA hB (by omega) (by omega)).1, (gm_dn_ok p0 hA hB (by omega) (by omega)).2⟩) (by omega)

set_option maxHeartbeats 1000000 in
theorem c_X7_start {w : am_w} {h : AH} {a : Nat} {n cl ow : Int} {fx fy xs ys : Int → Int} (hP : SP h a n cl ow fx fy) {p x y : Int} : AE w m_X7_start 2 [vr a, vi p, vi x, vi y] h (am_unit (fun h1 => SX h1 a 1 0 p (fun _ => x) (fun _ => y) ∧ am_fr h h1 a (a + 3))) := by
  refine AE.of wf_X7_start (Nat.le_of_ble_eq_true rfl) (am_ok_v) ?_
  refine q_blk (lv2 := [(0, vr a), (1, vi p), (2, vi x), (3, vi y)]) (st2 := [vi p, vr a]) kX7_start_0 rfl ?_
  refine q_pi eX7_start_2 fl_RX7_18 (fun q hq => by cases hq; exact Or.inl rfl) (Or.inl rfl) hP.1 (Nat.le_of_ble_eq_true rfl) (l2 := [0, 0, p, n, cl]) rfl (fun h1 e2 => ?_)
  have k3 := am_at e2
  have k4 := (am_ne e2 (a + 1) (by omega)).trans hP.2.1
  have k5 := (am_ne e2 (a + 2) (by omega)).trans hP.2.2
  refine q_blk (lv2 := [(0, vr a), (1, vi p), (2, vi x), (3, vi y)]) (st2 := [vi 0, vr a]) kX7_start_5 rfl ?_
  refine q_pi eX7_start_7 fl_RX7_22 (fun q hq => by cases hq; exact Or.inl rfl) (Or.inl rfl) k3 (Nat.le_of_ble_eq_true rfl) (l2 := [0, 0, p, 0, cl]) rfl (fun h6 e7 => ?_)
  have k8 := am_at e7
  have k9 := (am_ne e7 (a + 1) (by omega)).trans k4
  have k10 := (am_ne e7 (a + 2) (by omega)).trans k5
  refine q_blk (lv2 := [(0, vr a), (1, vi p), (2, vi x), (3, vi y)]) (st2 := [vi 0, vr a]) kX7_start_10 rfl ?_
  refine q_pi eX7_start_12 fl_RX7_25 (fun q hq => by cases hq; exact Or.inl rfl) (Or.inr ⟨rfl, by first | decide | omega⟩) k8 (Nat.le_of_ble_eq_true rfl) (l2 := [0, 0, p, 0, 0]) rfl (fun h11 e12 => ?_)
  have k13 := am_at e12
  have k14 := (am_ne e12 (a + 1) (by omega)).trans k9
  have k15 := (am_ne e12 (a + 2) (by omega)).trans k10
  refine q_blk (lv2 := [(0, vr a), (1, vi p), (2, vi x), (3, vi y)]) (st2 := [vi y, vi x, vi 0, vr a]) kX7_start_15 rfl ?_
  refine AQ.callVv (av := [vi 0, vi x, vi y]) (st := []) (c_X7_insert (n := 0) (cl := 0) (ow := p) (xs := xs) (ys := ys) ⟨fx, fy, ⟨k13, k14, k15⟩, ⟨by omega, by omega⟩, Or.inl rfl, fun j j0 j1 => by omega⟩ (by omega) (by omega) (by omega)) lk_RX7_29 (by decide) rfl rfl ⟨_, _, _, k13⟩ ⟨_, rfl, rfl⟩ (Nat.le_of_ble_eq_true rfl) eX7_start_19 (fun h18 e17 => ?_)
  obtain ⟨S19, F20⟩ := e17
  exact q_rv rfl eX7_start_22 ⟨rfl, ⟨by obtain ⟨gx, gy, g1, g2, g3, g4⟩ := S19; exact ⟨gx, gy, g1, g2, g3, fun j j0 j1 => by have ej : j = 0 := (by omega); subst ej; exact g4 0 (by omega) (by omega)⟩, (((am_fr.st e2 (by omega) (by omega)).tr (am_fr.st e7 (by omega) (by omega))).tr (am_fr.st e12 (by omega) (by omega))).tr F20⟩⟩

set_option maxHeartbeats 1000000 in
theorem c_X7_copyFrom {w : am_w} {h : AH} {a b : Nat} {n cl ow n2 cl2 ow2 : Int} {fx fy xs2 ys2 : Int → Int} (hP : SP h a n cl ow fx fy) (hT : SX h b n2 cl2 ow2 xs2 ys2) (hd : b + 3 ≤ a ∨ a + 3 ≤ b) : AE w m_X7_copyFrom 3 [vr a, vr b] h (am_unit (fun h1 => SX h1 a n2 cl2 ow2 xs2 ys2 ∧ am_fr h h1 a (a + 3))) := by
  refine AE.of wf_X7_copyFrom (Nat.le_of_ble_eq_true rfl) (am_ok_v) ?_
  obtain ⟨gx, gy, hQ, ⟨hn0, hn1⟩, hcl, hx⟩ := id hT
  refine q_blk (lv2 := [(0, vr a), (1, vr b)]) (st2 := [vr b]) kX7_copyFrom_0 rfl ?_
  refine q_gr eX7_copyFrom_1 fl_RX7_9 (Or.inr ⟨_, rfl⟩) hQ.1 rfl ?_
  refine q_blk (lv2 := [(0, vr a), (1, vr b)]) (st2 := [vr a, vi 0, vr (b + 1)]) kX7_copyFrom_4 rfl ?_
  refine q_gr eX7_copyFrom_6 fl_RX7_9 (Or.inr ⟨_, rfl⟩) hP.1 rfl ?_
  refine q_blk (lv2 := [(0, vr a), (1, vr b)]) (st2 := [vi 12, vi 0, vr (a + 1), vi 0, vr (b + 1)]) kX7_copyFrom_9 rfl ?_
  refine q_ac eX7_copyFrom_12 hQ.2.1 hP.2.1 (by omega) (by omega) (by omega) (by omega) (by omega) (am_gw 460 (by decide +kernel) (by decide +kernel)) (am_gw 454 (by decide +kernel) (by decide +kernel)) (am_gw 453 (by decide +kernel) (by decide +kernel)) (am_gw 57 (by decide +kernel) (by decide +kernel)) (by decide) (Nat.le_of_ble_eq_true rfl) (fun h1 e2 => ?_)
  have k3 := (am_ne e2 a (by omega)).trans hP.1
  have k4 := am_at e2
  have k5 := (am_ne e2 (a + 2) (by omega)).trans hP.2.2
  have k6 := (am_ne e2 b (by omega)).trans hQ.1
  have k7 := (am_ne e2 (b + 1) (by omega)).trans hQ.2.1
  have k8 := (am_ne e2 (b + 2) (by omega)).trans hQ.2.2
  refine q_blk (lv2 := [(0, vr a), (1, vr b)]) (st2 := [vr b]) kX7_copyFrom_15 rfl ?_
  refine q_gr eX7_copyFrom_16 fl_RX7_15 (Or.inr ⟨_, rfl⟩) k6 rfl ?_
  refine q_blk (lv2 := [(0, vr a), (1, vr b)]) (st2 := [vr a, vi 0, vr (b + 2)]) kX7_copyFrom_19 rfl ?_
  refine q_gr eX7_copyFrom_21 fl_RX7_15 (Or.inr ⟨_, rfl⟩) k3 rfl ?_
  refine q_blk (lv2 := [(0, vr a), (1, vr b)]) (st2 := [vi 12, vi 0, vr (a + 2), vi 0, vr (b + 2)]) kX7_copyFrom_24 rfl ?_
  refine q_ac eX7_copyFrom_27 k8 k5 (by omega) (by omega) (by omega) (by omega) (by omega) (am_gw 460 (by decide +kernel) (by decide +kernel)) (am_gw 454 (by decide +kernel) (by decide +kernel)) (am_gw 453 (by decide +kernel) (by decide +kernel)) (am_gw 57 (by decide +kernel) (by decide +kernel)) (by decide) (Nat.le_of_ble_eq_true rfl) (fun h9 e10 => ?_)
  have k11 := (am_ne e10 a (by omega)).trans k3
  have k12 := (am_ne e10 (a + 1) (by omega)).trans k4
  have k13 := am_at e10
  have k14 := (am_ne e10 b (by omega)).trans k6
  have k15 := (am_ne e10 (b + 1) (by omega)).trans k7
  have k16 := (am_ne e10 (b + 2) (by omega)).trans k8
  refine q_blk (lv2 := [(0, vr a), (1, vr b)]) (st2 := [vr b, vr a]) kX7_copyFrom_30 rfl ?_
  refine q_gi eX7_copyFrom_32 fl_RX7_18 (Or.inl rfl) k14 (z := ow2) rfl ?_
  refine q_pi eX7_copyFrom_35 fl_RX7_18 (fun q hq => by cases hq; exact Or.inl rfl) (Or.inl rfl) k11 (Nat.le_of_ble_eq_true rfl) (l2 := [0, 0, ow2, n, cl]) rfl (fun h17 e18 => ?_)
  have k19 := am_at e18
  have k20 := (am_ne e18 (a + 1) (by omega)).trans k12
  have k21 := (am_ne e18 (a + 2) (by omega)).trans k13
  have k22 := (am_ne e18 b (by omega)).trans k14
  have k23 := (am_ne e18 (b + 1) (by omega)).trans k15
  have k24 := (am_ne e18 (b + 2) (by omega)).trans k16
  refine q_blk (lv2 := [(0, vr a), (1, vr b)]) (st2 := [vr b, vr a]) kX7_copyFrom_38 rfl ?_
  refine q_gi eX7_copyFrom_40 fl_RX7_22 (Or.inl rfl) k22 (z := n2) rfl ?_
  refine q_pi eX7_copyFrom_43 fl_RX7_22 (fun q hq => by cases hq; exact Or.inl rfl) (Or.inl rfl) k19 (Nat.le_of_ble_eq_true rfl) (l2 := [0, 0, ow2, n2, cl]) rfl (fun h25 e26 => ?_)
  have k27 := am_at e26
  have k28 := (am_ne e26 (a + 1) (by omega)).trans k20
  have k29 := (am_ne e26 (a + 2) (by omega)).trans k21
  have k30 := (am_ne e26 b (by omega)).trans k22
  have k31 := (am_ne e26 (b + 1) (by omega)).trans k23
  have k32 := (am_ne e26 (b + 2) (by omega)).trans k24
  refine q_blk (lv2 := [(0, vr a), (1, vr b)]) (st2 := [vr b, vr a]) kX7_copyFrom_46 rfl ?_
  refine q_gi eX7_copyFrom_48 fl_RX7_25 (Or.inr rfl) k30 (z := cl2) rfl ?_
  refine q_pi eX7_copyFrom_51 fl_RX7_25 (fun q hq => by cases hq; exact Or.inl rfl) (Or.inr ⟨rfl, by first | decide | omega⟩) k27 (Nat.le_of_ble_eq_true rfl) (l2 := [0, 0, ow2, n2, cl2]) rfl (fun h33 e34 => ?_)
  have k35 := am_at e34
  have k36 := (am_ne e34 (a + 1) (by omega)).trans k28
  have k37 := (am_ne e34 (a + 2) (by omega)).trans k29
  have k38 := (am_ne e34 b (by omega)).trans k30
  have k39 := (am_ne e34 (b + 1) (by omega)).trans k31
  have k40 := (am_ne e34 (b + 2) (by omega)).trans k32
  exact q_rv rfl eX7_copyFrom_54 ⟨rfl, ⟨⟨_, _, ⟨k35, k36, k37⟩, ⟨by omega, by omega⟩, hcl, fun j j0 j1 => by unfold am_cpy; rw [if_pos (by omega), if_pos (by omega), show 0 + (j - 0) = j by omega]; exact hx j j0 j1⟩, (((((am_fr.st e2 (by omega) (by omega)).tr (am_fr.st e10 (by omega) (by omega))).tr (am_fr.st e18 (by omega) (by omega))).tr (am_fr.st e26 (by omega) (by omega))).tr (am_fr.st e34 (by omega) (by omega)))⟩⟩
