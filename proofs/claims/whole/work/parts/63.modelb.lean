/-! CornerClaimsModel: bytes, words, numbers of its text. -/

set_option maxHeartbeats 1000000 in
theorem c_X9_byteAt {w : am_w} {h : AH} {n : Nat} {th bl tl ps er ea eo ud g0 g1 g2 g3 ns ne se : Int} {D : Int → Int} (hm : MM h n th bl tl ps er ea eo ud g0 g1 g2 g3 ns ne se D) {bf : Int → Int} (hb : h.1 (n + 1) = some (100, 800, bf, am_N)) (hl : 0 ≤ tl ∧ tl ≤ 800) {k : Int} (k0 : 0 ≤ k) (k1 : k ≤ 1000000)  : AE w m_X9_byteAt 1 [vr n, vi k] h (am_intp h (fun z => z = gm_T bf tl k)) := by
  refine AE.of wf_X9_byteAt (Nat.le_of_ble_eq_true rfl) (am_ok_ip) ?_
  obtain ⟨m0, m1⟩ := id hm
  refine q_blk (lv2 := [(0, vr n), (1, vi k)]) (st2 := [vr n, vi k]) kX9_byteAt_0 rfl ?_
  refine q_gi eX9_byteAt_2 fl_RX9_130 (Or.inl rfl) m0 (z := tl) rfl ?_
  refine AQ.ic_ge (tgt := 17) eX9_byteAt_5 (by decide) (by first | assumption | exact ⟨by omega, by omega⟩) (by first | assumption | exact ⟨by omega, by omega⟩) (fun br1 => ?_) (fun br1 => ?_)
  · skip
    refine q_blk (lv2 := [(0, vr n), (1, vi k)]) (st2 := [vi (-1)]) kX9_byteAt_17 rfl ?_
    exact q_ri rfl eX9_byteAt_18 ⟨(-1), rfl, by unfold gm_T; rw [if_neg (by omega)], rfl⟩
  · skip
    refine q_blk (lv2 := [(0, vr n), (1, vi k)]) (st2 := [vr n]) kX9_byteAt_8 rfl ?_
    refine q_gr eX9_byteAt_9 fl_RX9_9 (Or.inr ⟨_, rfl⟩) m0 rfl ?_
    refine q_blk (lv2 := [(0, vr n), (1, vi k)]) (st2 := [vi k, vr (n + 1)]) kX9_byteAt_12 rfl ?_
    refine q_ia eX9_byteAt_13 hb (by decide) (by omega) (by omega) (z := (bf k)) rfl ?_
    refine q_goto (tgt := 18) eX9_byteAt_14 (by decide) ?_
    exact q_ri rfl eX9_byteAt_18 ⟨(bf k), rfl, by unfold gm_T; rw [if_pos (by omega)], rfl⟩

set_option maxHeartbeats 1000000 in
theorem c_X9_next {w : am_w} {h : AH} {n : Nat} {th bl tl ps er ea eo ud g0 g1 g2 g3 ns ne se : Int} {D : Int → Int} (hm : MM h n th bl tl ps er ea eo ud g0 g1 g2 g3 ns ne se D) {bf : Int → Int} (hb : h.1 (n + 1) = some (100, 800, bf, am_N)) (hl : 0 ≤ tl ∧ tl ≤ 800) {tx kd st vl : Int → Int} {N : Int} (hx : BX bf tx tl) (hg : TG tx kd st vl tl N) {i : Int} (hp : TP tx st N ps i)  : AE w m_X9_next 2 [vr n] h (am_int (fun z h1 => z = gm_T bf tl (st i) ∧ MM h1 n th bl tl (st i) er ea eo ud g0 g1 g2 g3 ns ne se D ∧ am_fr h h1 n (n + 1))) := by
  refine AE.of wf_X9_next (Nat.le_of_ble_eq_true rfl) (am_ok_i) ?_
  obtain ⟨m0, m1⟩ := id hm
  refine am_lp2 (I := fun  (hh : AH) (q : Int) => (ps ≤ q ∧ q ≤ st i) ∧ MM hh n th bl tl q er ea eo ud g0 g1 g2 g3 ns ne se D ∧ am_fr h hh n (n + 1)) (μ := fun  (hh : AH) (q : Int) => (st i - q).toNat) (G := fun  (hh : AH) (q : Int) => AQ w m_X9_next 2 0 [(0, vr n)] [] hh (am_int (fun z h1 => z = gm_T bf tl (st i) ∧ MM h1 n th bl tl (st i) er ea eo ud g0 g1 g2 g3 ns ne se D ∧ am_fr h h1 n (n + 1)))) ?_ h ps (⟨⟨Int.le_refl _, hp.2.2.1⟩, hm, am_fr.rf⟩)
  intro hh q hI2 ih1
  obtain ⟨⟨q0, q1⟩, hm9, hf9⟩ := hI2
  obtain ⟨m0', m1'⟩ := id hm9
  have hb9 := (hf9.2 (n + 1) (by omega)).trans hb
  have st9 := hg.st hl.1 hp.1.1 hp.1.2
  have hch := hg.ch hx hp.1.1 hp.1.2
  have p0 := hp.2.1
  have hq : q < st i → gm_T bf tl q = 32 := fun c => hp.sp hx (by omega) (by omega) c
  have hTr : -1 ≤ gm_T bf tl q ∧ gm_T bf tl q ≤ 255 := by
    by_cases c : q < st i
    · have := hq c; omega
    · rw [show q = st i by omega]; omega
  refine q_blk (lv2 := [(0, vr n)]) (st2 := [vr n, vr n]) kX9_next_0 rfl ?_
  refine q_gi eX9_next_2 fl_RX9_133 (Or.inl rfl) m0' (z := q) rfl ?_
  refine q_Vi (av := [vi q]) (st := []) (c_X9_byteAt hm9 hb9 hl (k := q) (by omega) (by omega)) lk_RX9_136 (by decide) rfl rfl hm9.ob ⟨_, rfl, rfl⟩ (Nat.le_of_ble_eq_true rfl) eX9_next_5 (fun z3 e4 => ?_)
  subst e4
  refine q_blk (lv2 := [(0, vr n)]) (st2 := [vi 32, vi (gm_T bf tl q)]) kX9_next_8 rfl ?_
  refine AQ.ic_ne (tgt := 26) eX9_next_10 (by decide) (by first | assumption | exact ⟨by omega, by omega⟩) ⟨by decide, by decide⟩ (fun br5 => ?_) (fun br5 => ?_)
  · skip
    have hqe : st i = q := by
      by_cases c : q < st i
      · have := hq c; omega
      · omega
    refine q_blk (lv2 := [(0, vr n)]) (st2 := [vr n, vr n]) kX9_next_26 rfl ?_
    refine q_gi eX9_next_28 fl_RX9_133 (Or.inl rfl) m0' (z := q) rfl ?_
    refine q_Vi (av := [vi q]) (st := []) (c_X9_byteAt hm9 hb9 hl (k := q) (by omega) (by omega)) lk_RX9_136 (by decide) rfl rfl hm9.ob ⟨_, rfl, rfl⟩ (Nat.le_of_ble_eq_true rfl) eX9_next_31 (fun z6 e7 => ?_)
    subst e7
    exact q_ri rfl eX9_next_34 ⟨(gm_T bf tl q), rfl, by rw [hqe], by rw [hqe]; exact hm9, hf9⟩
  · skip
    have hlt : q < st i := by
      by_cases c : q < st i
      · exact c
      · exfalso
        have := hch.1
        rw [show st i = q by omega] at this
        omega
    refine q_blk (lv2 := [(0, vr n)]) (st2 := [vr n, vr n]) kX9_next_13 rfl ?_
    refine q_gi eX9_next_15 fl_RX9_133 (Or.inl rfl) m0' (z := q) rfl ?_
    refine q_blk (lv2 := [(0, vr n)]) (st2 := [vi (q + 1), vr n]) kX9_next_18 rfl ?_
    refine q_pi eX9_next_20 fl_RX9_133 (fun q hq => by cases hq; exact Or.inl rfl) (Or.inl rfl) m0' (Nat.le_of_ble_eq_true rfl) (l2 := [th, 0, bl, tl, (q + 1), er, ea, eo, 0, 0, 0, ud, g0, g1, g2, g3, ns, ne, se, 0]) rfl (fun h8 e9 => ?_)
    have k10 := am_at e9
    have k11 := (am_ne e9 (n + 2) (by omega)).trans m1'
    refine q_goto (tgt := 0) eX9_next_23 (by decide) ?_
    exact ih1 h8 (q + 1) (⟨⟨by omega, by
      by_cases c : q < st i
      · omega
      · exfalso
        have := hch.1
        rw [show st i = q by omega] at this
        omega⟩, ⟨k10, k11⟩, am_fr.tr hf9 (am_fr.st e9 (by omega) (by omega))⟩) (by omega)

/-! the model's object and its data touched, nothing else -/
def am_f2 (h h1 : AH) (n : Nat) : Prop := h1.2 = h.2 ∧ ∀ q, q ≠ n → q ≠ n + 2 → h1.1 q = h.1 q
theorem am_f2.rf {h : AH} {n : Nat} : am_f2 h h n := ⟨rfl, fun _ _ _ => rfl⟩
theorem am_f2.tr {h h1 h2 : AH} {n : Nat} (a : am_f2 h h1 n) (b : am_f2 h1 h2 n) : am_f2 h h2 n := ⟨b.1.trans a.1, fun q q0 q1 => (b.2 q q0 q1).trans (a.2 q q0 q1)⟩
theorem am_fr.f2 {h h1 : AH} {n : Nat} (a : am_fr h h1 n (n + 1)) : am_f2 h h1 n := ⟨a.1, fun q q0 q1 => a.2 q (by omega)⟩
theorem am_fr.f2d {h h1 : AH} {n : Nat} (a : am_fr h h1 (n + 2) (n + 3)) : am_f2 h h1 n := ⟨a.1, fun q q0 q1 => a.2 q (by omega)⟩
theorem am_f2.nn {h h1 : AH} {n : Nat} (a : am_f2 h h1 n) : am_fr h h1 n (n + 14) := ⟨a.1, fun q q0 => a.2 q (by omega) (by omega)⟩
theorem MRX.f2 {h h1 : AH} {n : Nat} {bf od : Int → Int} {rw : Int → Int → Int} (k : MRX h n bf od rw) (f : am_f2 h h1 n) : MRX h1 n bf od rw := ⟨(f.2 _ (by omega) (by omega)).trans k.1, (f.2 _ (by omega) (by omega)).trans k.2.1, (f.2 _ (by omega) (by omega)).trans k.2.2.1, fun i i0 i1 => (f.2 _ (by omega) (by omega)).trans (k.2.2.2 i i0 i1)⟩

set_option maxHeartbeats 1000000 in
theorem c_X9_isGood {w : am_w} {h : AH} {n : Nat} {th bl tl ps er ea eo ud g0 g1 g2 g3 ns ne se : Int} {D : Int → Int} (hm : MM h n th bl tl ps er ea eo ud g0 g1 g2 g3 ns ne se D) (r_er : am_r er)  : AE w m_X9_isGood 1 [vr n] h (am_intp h (fun z => am_b z (er = 0))) := by
  refine AE.of wf_X9_isGood (Nat.le_of_ble_eq_true rfl) (am_ok_zp (fun z q => am_bz q)) ?_
  obtain ⟨m0, m1⟩ := id hm
  refine q_blk (lv2 := [(0, vr n)]) (st2 := [vr n]) kX9_isGood_0 rfl ?_
  refine q_gi eX9_isGood_1 fl_RX9_139 (Or.inl rfl) m0 (z := er) rfl ?_
  refine AQ.if_ne (tgt := 11) eX9_isGood_4 (by decide) (by first | assumption | exact ⟨by omega, by omega⟩) (fun br1 => ?_) (fun br1 => ?_)
  · skip
    refine q_blk (lv2 := [(0, vr n)]) (st2 := [vi 0]) kX9_isGood_11 rfl ?_
    exact q_rz rfl eX9_isGood_12 (by decide) ⟨0, rfl, Or.inr ⟨rfl, by omega⟩, rfl⟩
  · skip
    refine q_blk (lv2 := [(0, vr n)]) (st2 := [vi 1]) kX9_isGood_7 rfl ?_
    refine q_goto (tgt := 12) eX9_isGood_8 (by decide) ?_
    exact q_rz rfl eX9_isGood_12 (by decide) ⟨1, rfl, Or.inl ⟨rfl, by omega⟩, rfl⟩

set_option maxHeartbeats 1000000 in
theorem c_X9_isGood_g {w : am_w} {h : AH} {n : Nat} {th bl tl ps ea eo ud g0 g1 g2 g3 ns ne se : Int} {D : Int → Int} (hm : MM h n th bl tl ps 0 ea eo ud g0 g1 g2 g3 ns ne se D)  : AE w m_X9_isGood 1 [vr n] h (am_intp h (fun z => z = 1)) := by
  refine AE.of wf_X9_isGood (Nat.le_of_ble_eq_true rfl) ((am_ok_zp (fun z q => Or.inr q))) ?_
  obtain ⟨m0, m1⟩ := id hm
  refine q_blk (lv2 := [(0, vr n)]) (st2 := [vr n]) kX9_isGood_0 rfl ?_
  refine q_gi eX9_isGood_1 fl_RX9_139 (Or.inl rfl) m0 (z := 0) rfl ?_
  refine AQ.of (AS.if_ne_f eX9_isGood_4 ⟨by decide, by decide⟩ (by decide) (by decide)) ?_
  refine q_blk (lv2 := [(0, vr n)]) (st2 := [vi 1]) kX9_isGood_7 rfl ?_
  refine q_goto (tgt := 12) eX9_isGood_8 (by decide) ?_
  exact q_rz rfl eX9_isGood_12 (by decide) ⟨1, rfl, rfl, rfl⟩

set_option maxHeartbeats 1000000 in
theorem c_X9_isGood_b {w : am_w} {h : AH} {n : Nat} {th bl tl ps er ea eo ud g0 g1 g2 g3 ns ne se : Int} {D : Int → Int} (hm : MM h n th bl tl ps er ea eo ud g0 g1 g2 g3 ns ne se D) (re : er ≠ 0 ∧ am_r er)  : AE w m_X9_isGood 1 [vr n] h (am_intp h (fun z => z = 0)) := by
  refine AE.of wf_X9_isGood (Nat.le_of_ble_eq_true rfl) ((am_ok_zp (fun z q => Or.inl q))) ?_
  obtain ⟨m0, m1⟩ := id hm
  obtain ⟨re1, re2⟩ := id re
  refine q_blk (lv2 := [(0, vr n)]) (st2 := [vr n]) kX9_isGood_0 rfl ?_
  refine q_gi eX9_isGood_1 fl_RX9_139 (Or.inl rfl) m0 (z := er) rfl ?_
  refine AQ.of (AS.if_ne_t (tgt := 11) eX9_isGood_4 (by decide) (by first | assumption | exact ⟨by omega, by omega⟩) (by omega)) ?_
  refine q_blk (lv2 := [(0, vr n)]) (st2 := [vi 0]) kX9_isGood_11 rfl ?_
  exact q_rz rfl eX9_isGood_12 (by decide) ⟨0, rfl, rfl, rfl⟩

set_option maxHeartbeats 1000000 in
theorem c_X9_report_g {w : am_w} {h : AH} {n : Nat} {th bl tl ps ea eo ud g0 g1 g2 g3 ns ne se : Int} {D : Int → Int} (hm : MM h n th bl tl ps 0 ea eo ud g0 g1 g2 g3 ns ne se D) {k a : Int}  : AE w m_X9_report 1 [vr n, vi k, vi a] h (am_unit (fun h1 => MM h1 n th bl tl ps k a eo ud g0 g1 g2 g3 ns ne se D ∧ am_fr h h1 n (n + 1))) := by
  refine AE.of wf_X9_report (Nat.le_of_ble_eq_true rfl) (am_ok_v) ?_
  obtain ⟨m0, m1⟩ := id hm
  refine q_blk (lv2 := [(0, vr n), (1, vi k), (2, vi a)]) (st2 := [vr n]) kX9_report_0 rfl ?_
  refine q_gi eX9_report_1 fl_RX9_139 (Or.inl rfl) m0 (z := 0) rfl ?_
  refine AQ.of (AS.if_eq_t (tgt := 8) eX9_report_4 (by decide) ⟨by decide, by decide⟩ (by decide)) ?_
  refine q_blk (lv2 := [(0, vr n), (1, vi k), (2, vi a)]) (st2 := [vi k, vr n]) kX9_report_8 rfl ?_
  refine q_pi eX9_report_10 fl_RX9_139 (fun q hq => by cases hq; exact Or.inl rfl) (Or.inl rfl) m0 (Nat.le_of_ble_eq_true rfl) (l2 := [th, 0, bl, tl, ps, k, ea, eo, 0, 0, 0, ud, g0, g1, g2, g3, ns, ne, se, 0]) rfl (fun h1 e2 => ?_)
  have k3 := am_at e2
  have k4 := (am_ne e2 (n + 2) (by omega)).trans m1
  refine q_blk (lv2 := [(0, vr n), (1, vi k), (2, vi a)]) (st2 := [vi a, vr n]) kX9_report_13 rfl ?_
  refine q_pi eX9_report_15 fl_RX9_142 (fun q hq => by cases hq; exact Or.inl rfl) (Or.inl rfl) k3 (Nat.le_of_ble_eq_true rfl) (l2 := [th, 0, bl, tl, ps, k, a, eo, 0, 0, 0, ud, g0, g1, g2, g3, ns, ne, se, 0]) rfl (fun h5 e6 => ?_)
  have k7 := am_at e6
  have k8 := (am_ne e6 (n + 2) (by omega)).trans k4
  exact q_rv rfl eX9_report_18 ⟨rfl, ⟨k7, k8⟩, am_fr.tr (am_fr.st e2 (by omega) (by omega)) (am_fr.st e6 (by omega) (by omega))⟩

set_option maxHeartbeats 1000000 in
theorem c_X9_report_b {w : am_w} {h : AH} {n : Nat} {th bl tl ps er ea eo ud g0 g1 g2 g3 ns ne se : Int} {D : Int → Int} (hm : MM h n th bl tl ps er ea eo ud g0 g1 g2 g3 ns ne se D) (re : er ≠ 0 ∧ am_r er) {k a : Int}  : AE w m_X9_report 1 [vr n, vi k, vi a] h (am_unit (fun h1 => MM h1 n th bl tl ps er ea eo ud g0 g1 g2 g3 ns ne se D ∧ am_fr h h1 n (n + 1))) := by
  refine AE.of wf_X9_report (Nat.le_of_ble_eq_true rfl) (am_ok_v) ?_
  obtain ⟨m0, m1⟩ := id hm
  obtain ⟨re1, re2⟩ := id re
  refine q_blk (lv2 := [(0, vr n), (1, vi k), (2, vi a)]) (st2 := [vr n]) kX9_report_0 rfl ?_
  refine q_gi eX9_report_1 fl_RX9_139 (Or.inl rfl) m0 (z := er) rfl ?_
  refine AQ.of (AS.if_eq_f eX9_report_4 (by first | assumption | exact ⟨by omega, by omega⟩) (by omega) (by decide)) ?_
  exact q_rv rfl eX9_report_7 ⟨rfl, ⟨m0, m1⟩, am_fr.rf⟩

theorem gm_T_r {bf tx : Int → Int} {tl k : Int} (hx : BX bf tx tl) (k0 : 0 ≤ k) : -1 ≤ gm_T bf tl k ∧ gm_T bf tl k ≤ 255 := by
  unfold gm_T
  by_cases c : k < tl
  · rw [if_pos c, (hx k k0 c).1]; omega
  · rw [if_neg c]; omega
set_option maxHeartbeats 1000000 in
theorem c_X9_takeWord_g {w : am_w} {h : AH} {n : Nat} {th bl tl ps ea eo ud g0 g1 g2 g3 ns ne se : Int} {D : Int → Int} (hm : MM h n th bl tl ps 0 ea eo ud g0 g1 g2 g3 ns ne se D) {bf : Int → Int} (hb : h.1 (n + 1) = some (100, 800, bf, am_N)) (hl : 0 ≤ tl ∧ tl ≤ 800) {tx kd st vl : Int → Int} {N : Int} (hx : BX bf tx tl) (hg : TG tx kd st vl tl N) {i : Int} (hp : TP tx st N ps i) {w9 : Nat} (hw : w9 < 10) (hw1 : 1 ≤ w9)  : AE w m_X9_takeWord 5 [vr n, vr (w.2 (w9 + 19))] h (am_int (fun z h1 => ((z = 1 ∧ kd i = gm_wc w9 ∧ ∃ px, TP tx st N px (i + 1) ∧ MM h1 n th bl tl px 0 ea eo ud g0 g1 g2 g3 ns ne se D) ∨ (z = 0 ∧ kd i ≠ gm_wc w9 ∧ MM h1 n th bl tl (st i) 0 ea eo ud g0 g1 g2 g3 ns ne se D)) ∧ am_f2 h h1 n)) := by
  refine AE.of wf_X9_takeWord (Nat.le_of_ble_eq_true rfl) ((am_ok_z (fun z h1 q => by rcases q.1 with c | c; exact Or.inr c.1; exact Or.inl c.1))) ?_
  obtain ⟨m0, m1⟩ := id hm
  have hi : w9 + 19 < am_STR.length := Nat.lt_of_lt_of_le (show w9 + 19 < 29 by omega) (by decide)
  have hz1 := (am_byt_r (w9 + 19) hi).1
  have hw2 := hg.wd hx hp.1.1 hp.1.2 hw hw1
  have st9 := hg.st hl.1 hp.1.1 hp.1.2
  obtain ⟨hi0, hi1⟩ := id hp.1
  refine q_blk (lv2 := [(0, vr n), (1, vr (w.2 (w9 + 19)))]) (st2 := [vr n]) kX9_takeWord_0 rfl ?_
  refine q_Vi (av := []) (st := []) (c_X9_isGood_g hm) lk_RX9_145 (by decide) rfl rfl hm.ob ⟨_, rfl, rfl⟩ (Nat.le_of_ble_eq_true rfl) eX9_takeWord_1 (fun z1 e2 => ?_)
  subst e2
  refine AQ.of (AS.if_ne_t (tgt := 9) eX9_takeWord_4 (by decide) ⟨by decide, by decide⟩ (by decide)) ?_
  refine q_blk (lv2 := [(0, vr n), (1, vr (w.2 (w9 + 19)))]) (st2 := [vr n]) kX9_takeWord_9 rfl ?_
  refine AQ.callVi (av := []) (st := []) (c_X9_next hm hb hl hx hg hp) lk_RX9_149 (by decide) rfl rfl hm.ob ⟨_, rfl, rfl⟩ (Nat.le_of_ble_eq_true rfl) eX9_takeWord_10 (fun z3 h5 e4 => ?_)
  obtain ⟨rfl, Mh5, Fh5⟩ := e4
  have Vh5 : am_f2 h h5 n := Fh5.f2
  have hbh5 : h5.1 (n + 1) = some (100, 800, bf, am_N) := (Vh5.2 (n + 1) (by omega) (by omega)).trans hb
  obtain ⟨m0h5, m1h5⟩ := id Mh5
  have Ph5 := hp.at hg hl.1
  refine q_blk (lv2 := [(0, vr n), (1, vr (w.2 (w9 + 19))), (2, vi 0)]) (st2 := []) kX9_takeWord_13 rfl ?_
  refine am_lp1 (I := fun (k : Int) => (0 ≤ k ∧ k ≤ am_len (w9 + 19)) ∧ ∀ j : Nat, (j : Int) < k → gm_T bf tl (st i + j) = am_byt (w9 + 19) j) (μ := fun (k : Int) => ((am_len (w9 + 19) : Int) - k).toNat) (G := fun (k : Int) => AQ w m_X9_takeWord 5 16 [(0, vr n), (1, vr (w.2 (w9 + 19))), (2, vi k)] [] h5 (am_int (fun z h1 => ((z = 1 ∧ kd i = gm_wc w9 ∧ ∃ px, TP tx st N px (i + 1) ∧ MM h1 n th bl tl px 0 ea eo ud g0 g1 g2 g3 ns ne se D) ∨ (z = 0 ∧ kd i ≠ gm_wc w9 ∧ MM h1 n th bl tl (st i) 0 ea eo ud g0 g1 g2 g3 ns ne se D)) ∧ am_f2 h h1 n))) ?_ 0 (⟨⟨by omega, by omega⟩, fun j j0 => by omega⟩)
  intro k hI7 ih6
  obtain ⟨⟨k0, k1⟩, hr⟩ := hI7
  refine q_blk (lv2 := [(0, vr n), (1, vr (w.2 (w9 + 19))), (2, vi k)]) (st2 := [vr (w.2 (w9 + 19)), vi k]) kX9_takeWord_16 rfl ?_
  refine q_Ti hi (av := []) (st := [vi k]) (c_XS_length hi) lk_RX9_153 (by decide) rfl rfl rfl (Nat.le_of_ble_eq_true rfl) eX9_takeWord_18 (fun z8 e9 => ?_)
  subst e9
  refine AQ.ic_ge (tgt := 48) eX9_takeWord_21 (by decide) (by first | assumption | exact ⟨by omega, by omega⟩) (by first | assumption | exact ⟨by omega, by omega⟩) (fun br10 => ?_) (fun br10 => ?_)
  · skip
    refine q_blk (lv2 := [(0, vr n), (1, vr (w.2 (w9 + 19))), (2, vi k)]) (st2 := [vr (w.2 (w9 + 19)), vi k]) kX9_takeWord_48 rfl ?_
    refine q_Ti hi (av := []) (st := [vi k]) (c_XS_length hi) lk_RX9_153 (by decide) rfl rfl rfl (Nat.le_of_ble_eq_true rfl) eX9_takeWord_50 (fun z11 e12 => ?_)
    subst e12
    refine AQ.ic_lt (tgt := 76) eX9_takeWord_53 (by decide) (by first | assumption | exact ⟨by omega, by omega⟩) (by first | assumption | exact ⟨by omega, by omega⟩) (fun br13 => ?_) (fun br13 => ?_)
    · skip
      refine q_blk (lv2 := [(0, vr n), (1, vr (w.2 (w9 + 19))), (2, vi k)]) (st2 := [vi 0]) kX9_takeWord_76 rfl ?_
      exact q_rz rfl eX9_takeWord_77 (by decide) ⟨0, rfl, Or.inr ⟨rfl, fun q => (hw2.1 q).2.1 (by rw [show (am_len (w9 + 19) : Int) = k by omega]; omega), Mh5⟩, Vh5⟩
    · skip
      have bt8 := gm_T_r hx (tl := tl) (k := st i + k) (by omega)
      refine q_blk (lv2 := [(0, vr n), (1, vr (w.2 (w9 + 19))), (2, vi k)]) (st2 := [vr n, vr n]) kX9_takeWord_56 rfl ?_
      refine q_gi eX9_takeWord_58 fl_RX9_133 (Or.inl rfl) m0h5 (z := (st i)) rfl ?_
      refine q_blk (lv2 := [(0, vr n), (1, vr (w.2 (w9 + 19))), (2, vi k)]) (st2 := [vi ((st i) + k), vr n]) kX9_takeWord_61 rfl ?_
      refine q_Vi (av := [vi ((st i) + k)]) (st := []) (c_X9_byteAt Mh5 hbh5 hl (k := ((st i) + k)) (by omega) (by omega)) lk_RX9_136 (by decide) rfl rfl Mh5.ob ⟨_, rfl, rfl⟩ (Nat.le_of_ble_eq_true rfl) eX9_takeWord_63 (fun z14 e15 => ?_)
      subst e15
      refine q_blk (lv2 := [(0, vr n), (1, vr (w.2 (w9 + 19))), (2, vi k)]) (st2 := [vi 122, vi 97, vi (gm_T bf tl ((st i) + k))]) kX9_takeWord_66 rfl ?_
      refine q_Si (av := [vi (gm_T bf tl ((st i) + k)), vi 97, vi 122]) (st := []) (c_X9_in (by first | assumption | exact ⟨by omega, by omega⟩) (by first | assumption | exact ⟨by omega, by omega⟩) (by first | assumption | exact ⟨by omega, by omega⟩)) lk_RX9_57 (by decide) rfl rfl (Nat.le_of_ble_eq_true rfl) eX9_takeWord_70 (fun z16 e17 => ?_)
      rcases e17 with ⟨rfl, e17⟩ | ⟨rfl, e17⟩
      · skip
        refine AQ.of (AS.if_eq_f eX9_takeWord_73 ⟨by decide, by decide⟩ (by decide) (by decide)) ?_
        refine q_blk (lv2 := [(0, vr n), (1, vr (w.2 (w9 + 19))), (2, vi k)]) (st2 := [vi 0]) kX9_takeWord_76 rfl ?_
        exact q_rz rfl eX9_takeWord_77 (by decide) ⟨0, rfl, Or.inr ⟨rfl, fun q => (hw2.1 q).2.1 (by rw [show (am_len (w9 + 19) : Int) = k by omega]; omega), Mh5⟩, Vh5⟩
      · skip
        refine AQ.of (AS.if_eq_t (tgt := 78) eX9_takeWord_73 (by decide) ⟨by decide, by decide⟩ (by decide)) ?_
        refine q_blk (lv2 := [(0, vr n), (1, vr (w.2 (w9 + 19))), (2, vi k)]) (st2 := [vr n, vr n]) kX9_takeWord_78 rfl ?_
        refine q_gi eX9_takeWord_80 fl_RX9_133 (Or.inl rfl) m0h5 (z := (st i)) rfl ?_
        refine q_blk (lv2 := [(0, vr n), (1, vr (w.2 (w9 + 19))), (2, vi k)]) (st2 := [vi ((st i) + k), vr n]) kX9_takeWord_83 rfl ?_
        refine q_pi eX9_takeWord_85 fl_RX9_133 (fun q hq => by cases hq; exact Or.inl rfl) (Or.inl rfl) m0h5 (Nat.le_of_ble_eq_true rfl) (l2 := [th, 0, bl, tl, ((st i) + k), 0, ea, eo, 0, 0, 0, ud, g0, g1, g2, g3, ns, ne, se, 0]) rfl (fun h18 e19 => ?_)
        have k20 := am_at e19
        have k21 := (am_ne e19 (n + 2) (by omega)).trans m1h5
        refine q_blk (lv2 := [(0, vr n), (1, vr (w.2 (w9 + 19))), (2, vi k)]) (st2 := [vi 1]) kX9_takeWord_88 rfl ?_
        exact q_rz rfl eX9_takeWord_89 (by decide) ⟨1, rfl, Or.inl ⟨rfl, hw2.2 (fun j hj => hr j (by omega)) (by rw [show (am_len (w9 + 19) : Int) = k by omega]; omega), st i + k, ⟨⟨by omega, by have := (hw2.1 (hw2.2 (fun j hj => hr j (by omega)) (by rw [show (am_len (w9 + 19) : Int) = k by omega]; omega))).2.2.2.1; omega⟩, by omega, by have := (hw2.1 (hw2.2 (fun j hj => hr j (by omega)) (by rw [show (am_len (w9 + 19) : Int) = k by omega]; omega))).2.2.2.2; rw [show (am_len (w9 + 19) : Int) = k by omega] at this; exact this⟩, ⟨k20, k21⟩⟩, Vh5.tr (am_fr.f2 (am_fr.st e19 (by omega) (by omega)))⟩
  · skip
    refine q_blk (lv2 := [(0, vr n), (1, vr (w.2 (w9 + 19))), (2, vi k)]) (st2 := [vr n, vr n]) kX9_takeWord_24 rfl ?_
    refine q_gi eX9_takeWord_26 fl_RX9_133 (Or.inl rfl) m0h5 (z := (st i)) rfl ?_
    refine q_blk (lv2 := [(0, vr n), (1, vr (w.2 (w9 + 19))), (2, vi k)]) (st2 := [vi ((st i) + k), vr n]) kX9_takeWord_29 rfl ?_
    refine q_Vi (av := [vi ((st i) + k)]) (st := []) (c_X9_byteAt Mh5 hbh5 hl (k := ((st i) + k)) (by omega) (by omega)) lk_RX9_136 (by decide) rfl rfl Mh5.ob ⟨_, rfl, rfl⟩ (Nat.le_of_ble_eq_true rfl) eX9_takeWord_31 (fun z22 e23 => ?_)
    subst e23
    have bt9 := gm_T_r hx (tl := tl) (k := st i + k) (by omega)
    have bk := (am_byt_r (w9 + 19) hi).2 k.toNat (by omega)
    refine q_blk (lv2 := [(0, vr n), (1, vr (w.2 (w9 + 19))), (2, vi k)]) (st2 := [vi k, vr (w.2 (w9 + 19)), vi (gm_T bf tl ((st i) + k))]) kX9_takeWord_34 rfl ?_
    refine q_Ti hi (av := [vi k]) (st := [vi (gm_T bf tl ((st i) + k))]) (c_XS_charAtI hi (by omega) (by omega)) lk_RX9_158 (by decide) rfl rfl rfl (Nat.le_of_ble_eq_true rfl) eX9_takeWord_36 (fun z24 e25 => ?_)
    subst e25
    refine AQ.ic_ne (tgt := 48) eX9_takeWord_39 (by decide) (by first | assumption | exact ⟨by omega, by omega⟩) (by first | assumption | exact ⟨by omega, by omega⟩) (fun br26 => ?_) (fun br26 => ?_)
    · skip
      refine q_blk (lv2 := [(0, vr n), (1, vr (w.2 (w9 + 19))), (2, vi k)]) (st2 := [vr (w.2 (w9 + 19)), vi k]) kX9_takeWord_48 rfl ?_
      refine q_Ti hi (av := []) (st := [vi k]) (c_XS_length hi) lk_RX9_153 (by decide) rfl rfl rfl (Nat.le_of_ble_eq_true rfl) eX9_takeWord_50 (fun z27 e28 => ?_)
      subst e28
      refine AQ.ic_lt (tgt := 76) eX9_takeWord_53 (by decide) (by first | assumption | exact ⟨by omega, by omega⟩) (by first | assumption | exact ⟨by omega, by omega⟩) (fun br29 => ?_) (fun br29 => ?_)
      · skip
        refine q_blk (lv2 := [(0, vr n), (1, vr (w.2 (w9 + 19))), (2, vi k)]) (st2 := [vi 0]) kX9_takeWord_76 rfl ?_
        exact q_rz rfl eX9_takeWord_77 (by decide) ⟨0, rfl, Or.inr ⟨rfl, fun q => br26 (by have h3 := (hw2.1 q).1 k.toNat (by omega); rw [Int.toNat_of_nonneg k0] at h3; exact h3), Mh5⟩, Vh5⟩
      · skip
        have bt8 := gm_T_r hx (tl := tl) (k := st i + k) (by omega)
        refine q_blk (lv2 := [(0, vr n), (1, vr (w.2 (w9 + 19))), (2, vi k)]) (st2 := [vr n, vr n]) kX9_takeWord_56 rfl ?_
        refine q_gi eX9_takeWord_58 fl_RX9_133 (Or.inl rfl) m0h5 (z := (st i)) rfl ?_
        refine q_blk (lv2 := [(0, vr n), (1, vr (w.2 (w9 + 19))), (2, vi k)]) (st2 := [vi ((st i) + k), vr n]) kX9_takeWord_61 rfl ?_
        refine q_Vi (av := [vi ((st i) + k)]) (st := []) (c_X9_byteAt Mh5 hbh5 hl (k := ((st i) + k)) (by omega) (by omega)) lk_RX9_136 (by decide) rfl rfl Mh5.ob ⟨_, rfl, rfl⟩ (Nat.le_of_ble_eq_true rfl) eX9_takeWord_63 (fun z30 e31 => ?_)
        subst e31
        refine q_blk (lv2 := [(0, vr n), (1, vr (w.2 (w9 + 19))), (2, vi k)]) (st2 := [vi 122, vi 97, vi (gm_T bf tl ((st i) + k))]) kX9_takeWord_66 rfl ?_
        refine q_Si (av := [vi (gm_T bf tl ((st i) + k)), vi 97, vi 122]) (st := []) (c_X9_in (by first | assumption | exact ⟨by omega, by omega⟩) (by first | assumption | exact ⟨by omega, by omega⟩) (by first | assumption | exact ⟨by omega, by omega⟩)) lk_RX9_57 (by decide) rfl rfl (Nat.le_of_ble_eq_true rfl) eX9_takeWord_70 (fun z32 e33 => ?_)
        rcases e33 with ⟨rfl, e33⟩ | ⟨rfl, e33⟩
        · skip
          refine AQ.of (AS.if_eq_f eX9_takeWord_73 ⟨by decide, by decide⟩ (by decide) (by decide)) ?_
          refine q_blk (lv2 := [(0, vr n), (1, vr (w.2 (w9 + 19))), (2, vi k)]) (st2 := [vi 0]) kX9_takeWord_76 rfl ?_
          exact q_rz rfl eX9_takeWord_77 (by decide) ⟨0, rfl, Or.inr ⟨rfl, fun q => br26 (by have h3 := (hw2.1 q).1 k.toNat (by omega); rw [Int.toNat_of_nonneg k0] at h3; exact h3), Mh5⟩, Vh5⟩
        · skip
          refine AQ.of (AS.if_eq_t (tgt := 78) eX9_takeWord_73 (by decide) ⟨by decide, by decide⟩ (by decide)) ?_
          refine q_blk (lv2 := [(0, vr n), (1, vr (w.2 (w9 + 19))), (2, vi k)]) (st2 := [vr n, vr n]) kX9_takeWord_78 rfl ?_
          refine q_gi eX9_takeWord_80 fl_RX9_133 (Or.inl rfl) m0h5 (z := (st i)) rfl ?_
          refine q_blk (lv2 := [(0, vr n), (1, vr (w.2 (w9 + 19))), (2, vi k)]) (st2 := [vi ((st i) + k), vr n]) kX9_takeWord_83 rfl ?_
          refine q_pi eX9_takeWord_85 fl_RX9_133 (fun q hq => by cases hq; exact Or.inl rfl) (Or.inl rfl) m0h5 (Nat.le_of_ble_eq_true rfl) (l2 := [th, 0, bl, tl, ((st i) + k), 0, ea, eo, 0, 0, 0, ud, g0, g1, g2, g3, ns, ne, se, 0]) rfl (fun h34 e35 => ?_)
          have k36 := am_at e35
          have k37 := (am_ne e35 (n + 2) (by omega)).trans m1h5
          refine q_blk (lv2 := [(0, vr n), (1, vr (w.2 (w9 + 19))), (2, vi k)]) (st2 := [vi 1]) kX9_takeWord_88 rfl ?_
          exact q_rz rfl eX9_takeWord_89 (by decide) ⟨1, rfl, Or.inl ⟨rfl, hw2.2 (fun j hj => hr j (by omega)) (by rw [show (am_len (w9 + 19) : Int) = k by omega]; omega), st i + k, ⟨⟨by omega, by have := (hw2.1 (hw2.2 (fun j hj => hr j (by omega)) (by rw [show (am_len (w9 + 19) : Int) = k by omega]; omega))).2.2.2.1; omega⟩, by omega, by have := (hw2.1 (hw2.2 (fun j hj => hr j (by omega)) (by rw [show (am_len (w9 + 19) : Int) = k by omega]; omega))).2.2.2.2; rw [show (am_len (w9 + 19) : Int) = k by omega] at this; exact this⟩, ⟨k36, k37⟩⟩, Vh5.tr (am_fr.f2 (am_fr.st e35 (by omega) (by omega)))⟩
    · skip
      refine q_blk (lv2 := [(0, vr n), (1, vr (w.2 (w9 + 19))), (2, vi (k + 1))]) (st2 := []) kX9_takeWord_42 rfl ?_
      refine q_goto (tgt := 16) eX9_takeWord_45 (by decide) ?_
      exact ih6 (k + 1) (⟨⟨by omega, by omega⟩, fun j j0 => by
      by_cases c : (j : Int) < k
      · exact hr j c
      · obtain rfl : k = (j : Int) := by omega
        have h3 := br26
        exact h3⟩) (by omega)

set_option maxHeartbeats 1000000 in
theorem c_X9_takeWord_b {w : am_w} {h : AH} {n : Nat} {th bl tl ps er ea eo ud g0 g1 g2 g3 ns ne se : Int} {D : Int → Int} (hm : MM h n th bl tl ps er ea eo ud g0 g1 g2 g3 ns ne se D) (re : er ≠ 0 ∧ am_r er) {x : Nat}  : AE w m_X9_takeWord 2 [vr n, vr x] h (am_intp h (fun z => z = 0)) := by
  refine AE.of wf_X9_takeWord (Nat.le_of_ble_eq_true rfl) ((am_ok_zp (fun z q => Or.inl q))) ?_
  obtain ⟨m0, m1⟩ := id hm
  refine q_blk (lv2 := [(0, vr n), (1, vr x)]) (st2 := [vr n]) kX9_takeWord_0 rfl ?_
  refine q_Vi (av := []) (st := []) (c_X9_isGood_b hm re) lk_RX9_145 (by decide) rfl rfl hm.ob ⟨_, rfl, rfl⟩ (Nat.le_of_ble_eq_true rfl) eX9_takeWord_1 (fun z1 e2 => ?_)
  subst e2
  refine AQ.of (AS.if_ne_f eX9_takeWord_4 ⟨by decide, by decide⟩ (by decide) (by decide)) ?_
  refine q_blk (lv2 := [(0, vr n), (1, vr x)]) (st2 := [vi 0]) kX9_takeWord_7 rfl ?_
  exact q_rz rfl eX9_takeWord_8 (by decide) ⟨0, rfl, rfl, rfl⟩

theorem TG.sg {tx kd st vl bf : Int → Int} {len N i : Int} (g : TG tx kd st vl len N) (hb : BX bf tx len) (i0 : 0 ≤ i) (i1 : i ≤ N) {c : Int} (hc : c = 40 ∨ c = 41 ∨ c = 42 ∨ c = 43 ∨ c = 45 ∨ c = 47 ∨ c = 59) (h : kd i = c) : i < N ∧ st i < len ∧ TPs tx st (st i + 1) (i + 1) := by
  rcases g i i0 i1 with ⟨a, b, c'⟩ | ⟨a, b, c', e, d1, d2, d3, d4⟩
  · omega
  · rcases d3 with ⟨w1, w2, w3, w4⟩ | ⟨w1, w2, w3⟩ | ⟨w1, w2, w3, w4, w5⟩
    · omega
    · have r := gm_kw_r tx (st i) e; omega
    · rw [w5] at d4
      exact ⟨a, c', d4⟩
set_option maxHeartbeats 1000000 in
theorem c_X9_expect_g {w : am_w} {h : AH} {n : Nat} {th bl tl ps ea eo ud g0 g1 g2 g3 ns ne se : Int} {D : Int → Int} (hm : MM h n th bl tl ps 0 ea eo ud g0 g1 g2 g3 ns ne se D) {bf : Int → Int} (hb : h.1 (n + 1) = some (100, 800, bf, am_N)) (hl : 0 ≤ tl ∧ tl ≤ 800) {tx kd st vl : Int → Int} {N : Int} (hx : BX bf tx tl) (hg : TG tx kd st vl tl N) {i : Int} (hp : TP tx st N ps i) {c : Int} (hc : c = 41 ∨ c = 59)  : AE w m_X9_expect 3 [vr n, vi c] h (am_unit (fun h1 => ((rT kd st c i = .inr () ∧ ∃ px, TP tx st N px (i + 1) ∧ MM h1 n th bl tl px 0 ea eo ud g0 g1 g2 g3 ns ne se D) ∨ (∃ e a, rT kd st c i = .inl (e, a) ∧ e = -2 ∧ MM h1 n th bl tl (st i) e a eo ud g0 g1 g2 g3 ns ne se D)) ∧ am_f2 h h1 n)) := by
  refine AE.of wf_X9_expect (Nat.le_of_ble_eq_true rfl) (am_ok_v) ?_
  obtain ⟨m0, m1⟩ := id hm
  have st9 := hg.st hl.1 hp.1.1 hp.1.2
  obtain ⟨hi0, hi1⟩ := id hp.1
  have hch := hg.ch hx hp.1.1 hp.1.2
  refine q_blk (lv2 := [(0, vr n), (1, vi c)]) (st2 := [vr n]) kX9_expect_0 rfl ?_
  refine q_Vi (av := []) (st := []) (c_X9_isGood_g hm) lk_RX9_145 (by decide) rfl rfl hm.ob ⟨_, rfl, rfl⟩ (Nat.le_of_ble_eq_true rfl) eX9_expect_1 (fun z1 e2 => ?_)
  subst e2
  refine AQ.of (AS.if_ne_t (tgt := 8) eX9_expect_4 (by decide) ⟨by decide, by decide⟩ (by decide)) ?_
  refine q_blk (lv2 := [(0, vr n), (1, vi c)]) (st2 := [vr n]) kX9_expect_8 rfl ?_
  refine AQ.callVi (av := []) (st := []) (c_X9_next hm hb hl hx hg hp) lk_RX9_149 (by decide) rfl rfl hm.ob ⟨_, rfl, rfl⟩ (Nat.le_of_ble_eq_true rfl) eX9_expect_9 (fun z3 h5 e4 => ?_)
  obtain ⟨rfl, Mh5, Fh5⟩ := e4
  have Vh5 : am_f2 h h5 n := Fh5.f2
  have hbh5 : h5.1 (n + 1) = some (100, 800, bf, am_N) := (Vh5.2 (n + 1) (by omega) (by omega)).trans hb
  obtain ⟨m0h5, m1h5⟩ := id Mh5
  have Ph5 := hp.at hg hl.1
  refine q_blk (lv2 := [(0, vr n), (1, vi c)]) (st2 := [vi c, vi (gm_T bf tl (st i))]) kX9_expect_12 rfl ?_
  refine AQ.ic_ne (tgt := 29) eX9_expect_13 (by decide) (by first | assumption | exact ⟨by omega, by omega⟩) (by first | assumption | exact ⟨by omega, by omega⟩) (fun br6 => ?_) (fun br6 => ?_)
  · skip
    refine q_blk (lv2 := [(0, vr n), (1, vi c)]) (st2 := [vr n, vi (-2), vr n]) kX9_expect_29 rfl ?_
    refine q_gi eX9_expect_33 fl_RX9_133 (Or.inl rfl) m0h5 (z := (st i)) rfl ?_
    refine AQ.callVv (av := [vi (-2), vi (st i)]) (st := []) (c_X9_report_g Mh5 (k := (-2)) (a := (st i))) lk_RX9_162 (by decide) rfl rfl Mh5.ob ⟨_, rfl, rfl⟩ (Nat.le_of_ble_eq_true rfl) eX9_expect_36 (fun h9 e8 => ?_)
    obtain ⟨Mh9, Fh9⟩ := e8
    have Vh9 : am_f2 h h9 n := Vh5.tr (Fh9.f2)
    have hbh9 : h9.1 (n + 1) = some (100, 800, bf, am_N) := (Vh9.2 (n + 1) (by omega) (by omega)).trans hb
    obtain ⟨m0h9, m1h9⟩ := id Mh9
    have Yh9 : ((-2) : Int) ≠ 0 ∧ am_r (-2) := ⟨by decide, by decide, by decide⟩
    exact q_rv rfl eX9_expect_39 ⟨rfl, Or.inr ⟨_, _, if_neg (fun q9 => by have q8 := (hch.2.2.2.2.2 c (by omega)).mp q9; omega), by decide, Mh9⟩, Vh9⟩
  · skip
    have q9 := (hch.2.2.2.2.2 c (by omega)).mpr (by omega)
    have HT := hg.sg hx hp.1.1 hp.1.2 (c := c) (by omega) q9
    refine q_blk (lv2 := [(0, vr n), (1, vi c)]) (st2 := [vr n, vr n]) kX9_expect_16 rfl ?_
    refine q_gi eX9_expect_18 fl_RX9_133 (Or.inl rfl) m0h5 (z := (st i)) rfl ?_
    refine q_blk (lv2 := [(0, vr n), (1, vi c)]) (st2 := [vi ((st i) + 1), vr n]) kX9_expect_21 rfl ?_
    refine q_pi eX9_expect_23 fl_RX9_133 (fun q hq => by cases hq; exact Or.inl rfl) (Or.inl rfl) m0h5 (Nat.le_of_ble_eq_true rfl) (l2 := [th, 0, bl, tl, ((st i) + 1), 0, ea, eo, 0, 0, 0, ud, g0, g1, g2, g3, ns, ne, se, 0]) rfl (fun h10 e11 => ?_)
    have k12 := am_at e11
    have k13 := (am_ne e11 (n + 2) (by omega)).trans m1h5
    refine q_goto (tgt := 39) eX9_expect_26 (by decide) ?_
    have Mw14 : MM h10 n th bl tl ((st i) + 1) 0 ea eo ud g0 g1 g2 g3 ns ne se D := ⟨k12, k13⟩
    have Vw14 : am_f2 _ h10 n := (am_fr.st e11 (by omega) (by omega) : am_fr _ _ n (n + 1)).f2
    have Yh10' : am_f2 h h10 n := Vh5.tr Vw14
    have hbh10 : h10.1 (n + 1) = some (100, 800, bf, am_N) := (Yh10'.2 (n + 1) (by omega) (by omega)).trans hb
    obtain ⟨m0h10, m1h10⟩ := id Mw14
    exact q_rv rfl eX9_expect_39 ⟨rfl, Or.inl ⟨by have q9 := (hch.2.2.2.2.2 c (by omega)).mpr (by omega); exact if_pos q9, _, ⟨⟨by omega, by omega⟩, by omega, HT.2.2⟩, Mw14⟩, Yh10'⟩

set_option maxHeartbeats 1000000 in
theorem c_X9_expect_b {w : am_w} {h : AH} {n : Nat} {th bl tl ps er ea eo ud g0 g1 g2 g3 ns ne se : Int} {D : Int → Int} (hm : MM h n th bl tl ps er ea eo ud g0 g1 g2 g3 ns ne se D) (re : er ≠ 0 ∧ am_r er) {c : Int}  : AE w m_X9_expect 2 [vr n, vi c] h (am_unit (fun h1 => h1 = h)) := by
  refine AE.of wf_X9_expect (Nat.le_of_ble_eq_true rfl) (am_ok_v) ?_
  obtain ⟨m0, m1⟩ := id hm
  refine q_blk (lv2 := [(0, vr n), (1, vi c)]) (st2 := [vr n]) kX9_expect_0 rfl ?_
  refine q_Vi (av := []) (st := []) (c_X9_isGood_b hm re) lk_RX9_145 (by decide) rfl rfl hm.ob ⟨_, rfl, rfl⟩ (Nat.le_of_ble_eq_true rfl) eX9_expect_1 (fun z1 e2 => ?_)
  subst e2
  refine AQ.of (AS.if_ne_f eX9_expect_4 ⟨by decide, by decide⟩ (by decide) (by decide)) ?_
  exact q_rv rfl eX9_expect_7 ⟨rfl, rfl⟩

theorem TG.nu {tx kd st vl bf : Int → Int} {len N i : Int} (g : TG tx kd st vl len N) (hb : BX bf tx len) (i0 : 0 ≤ i) (i1 : i ≤ N) (h : kd i = 2) : i < N ∧ ∃ e, (st i < e ∧ e ≤ len) ∧ TPs tx st e (i + 1) ∧ (∀ q, st i ≤ q → q < e → 48 ≤ gm_T bf len q ∧ gm_T bf len q ≤ 57 ∧ bf q = gm_T bf len q) ∧ ¬ (48 ≤ gm_T bf len e ∧ gm_T bf len e ≤ 57) ∧ (0 ≤ gm_vm bf (st i) (e - st i).toNat ∧ gm_vm bf (st i) (e - st i).toNat ≤ 1000000) ∧ ((gm_vm bf (st i) (e - st i).toNat < 10000 ∧ vl i = gm_vm bf (st i) (e - st i).toNat) ∨ (10000 ≤ gm_vm bf (st i) (e - st i).toNat ∧ vl i = 10000)) := by
  rcases g i i0 i1 with ⟨a, b, c⟩ | ⟨a, b, c, e, d1, d2, d3, d4⟩
  · omega
  · rcases d3 with ⟨w1, w2, w3, w4⟩ | ⟨w1, w2, w3⟩ | ⟨w1, w2, w3, w4, w5⟩
    · have F : ∀ q, st i ≤ q → q < e → bf q = tx q ∧ 48 ≤ tx q ∧ tx q ≤ 57 := fun q q0 q1 => by
        have r := w3.2.1 q q0 q1
        have := (hb q (by omega) (by omega)).1
        omega
      refine ⟨a, e, ⟨d1, d2⟩, d4, fun q q0 q1 => ?_, fun z => ?_, ?_⟩
      · have r := F q q0 q1
        unfold gm_T
        rw [if_pos (by omega)]
        omega
      · unfold gm_T at z
        by_cases c2 : e < len
        · rw [if_pos c2, (hb e (by omega) c2).1] at z
          have := hb e (by omega) c2
          have := w3.2.2
          omega
        · rw [if_neg c2] at z; omega
      · have r := gm_vm_va (bf := bf) (tx := tx) (s := st i) (n := (e - st i).toNat) fun k hk => F _ (by omega) (by omega)
        rw [w4]
        rcases r.2 with ⟨p1, p2⟩ | ⟨p1, p2⟩
        · exact ⟨r.1, Or.inl ⟨p1, p2⟩⟩
        · exact ⟨r.1, Or.inr ⟨p1, p2⟩⟩
    · have r := gm_kw_r tx (st i) e; omega
    · have r := gm_ks_r (tx (st i)); omega
theorem gm_vm_s {bf : Int → Int} {s q : Int} (h : s ≤ q) : gm_vm bf s (q + 1 - s).toNat = gm_lo 1000000 (10 * gm_vm bf s (q - s).toNat + bf q - 48) := by
  obtain ⟨k, hk⟩ := Int.eq_ofNat_of_zero_le (show 0 ≤ q - s by omega)
  have hq : q = s + k := by omega
  subst hq
  rw [show (s + (k : Int) + 1 - s).toNat = k + 1 by omega, show (s + (k : Int) - s).toNat = k by omega]
  simp only [gm_vm, gm_lo]
  (repeat' split) <;> omega
set_option maxHeartbeats 4000000 in
theorem c_X9_number_g {w : am_w} {h : AH} {n : Nat} {th bl tl ps ea eo ud g0 g1 g2 g3 ns ne se : Int} {D : Int → Int} (hm : MM h n th bl tl ps 0 ea eo ud g0 g1 g2 g3 ns ne se D) {bf : Int → Int} (hb : h.1 (n + 1) = some (100, 800, bf, am_N)) (hl : 0 ≤ tl ∧ tl ≤ 800) {tx kd st vl : Int → Int} {N : Int} (hx : BX bf tx tl) (hg : TG tx kd st vl tl N) {i : Int} (hp : TP tx st N ps i) {lo hi : Int} (h_lo : 0 ≤ lo ∧ lo ≤ hi + 1) (h_hi : hi ≤ 9999) (h_hi0 : -1 ≤ hi)  : AE w m_X9_number 3 [vr n, vi lo, vi hi] h (am_int (fun z h1 => ((∃ px, rN kd st vl lo hi i = .inr z ∧ kd i = 2 ∧ TP tx st N px (i + 1) ∧ MM h1 n th bl tl px 0 ea eo ud g0 g1 g2 g3 (st i) ne se D) ∨ (∃ px ns' e a, rN kd st vl lo hi i = .inl (e, a) ∧ (e ≠ 0 ∧ am_r e) ∧ MM h1 n th bl tl px e a eo ud g0 g1 g2 g3 ns' ne se D)) ∧ 0 ≤ z ∧ z ≤ 1000000 ∧ am_f2 h h1 n)) := by
  refine AE.of wf_X9_number (Nat.le_of_ble_eq_true rfl) (am_ok_i) ?_
  obtain ⟨m0, m1⟩ := id hm
  have st9 := hg.st hl.1 hp.1.1 hp.1.2
  obtain ⟨hi0, hi1⟩ := id hp.1
  have hch := hg.ch hx hp.1.1 hp.1.2
  refine q_blk (lv2 := [(0, vr n), (1, vi lo), (2, vi hi)]) (st2 := [vr n]) kX9_number_0 rfl ?_
  refine q_Vi (av := []) (st := []) (c_X9_isGood_g hm) lk_RX9_145 (by decide) rfl rfl hm.ob ⟨_, rfl, rfl⟩ (Nat.le_of_ble_eq_true rfl) eX9_number_1 (fun z1 e2 => ?_)
  subst e2
  refine AQ.of (AS.if_ne_t (tgt := 9) eX9_number_4 (by decide) ⟨by decide, by decide⟩ (by decide)) ?_
  refine q_blk (lv2 := [(0, vr n), (1, vi lo), (2, vi hi)]) (st2 := [vr n]) kX9_number_9 rfl ?_
  refine AQ.callVi (av := []) (st := []) (c_X9_next hm hb hl hx hg hp) lk_RX9_149 (by decide) rfl rfl hm.ob ⟨_, rfl, rfl⟩ (Nat.le_of_ble_eq_true rfl) eX9_number_10 (fun z3 h5 e4 => ?_)
  obtain ⟨rfl, Mh5, Fh5⟩ := e4
  have Vh5 : am_f2 h h5 n := Fh5.f2
  have hbh5 : h5.1 (n + 1) = some (100, 800, bf, am_N) := (Vh5.2 (n + 1) (by omega) (by omega)).trans hb
  obtain ⟨m0h5, m1h5⟩ := id Mh5
  have Ph5 := hp.at hg hl.1
  refine q_Si (av := [vi (gm_T bf tl (st i))]) (st := []) (c_X9_isDigit (x := (gm_T bf tl (st i))) ⟨by omega, by omega⟩) lk_RX9_166 (by decide) rfl rfl (Nat.le_of_ble_eq_true rfl) eX9_number_13 (fun z6 e7 => ?_)
  rcases e7 with ⟨rfl, e7⟩ | ⟨rfl, e7⟩
  · skip
    refine AQ.of (AS.if_ne_t (tgt := 31) eX9_number_16 (by decide) ⟨by decide, by decide⟩ (by decide)) ?_
    have hk2 : kd i = 2 := hch.2.2.2.1.mpr (by omega)
    obtain ⟨hN9, en9, ⟨he1, he2⟩, hTe, hdg, hnd, hvm, hva⟩ := hg.nu hx hp.1.1 hp.1.2 hk2
    refine q_blk (lv2 := [(0, vr n), (1, vi lo), (2, vi hi)]) (st2 := [vr n, vr n]) kX9_number_31 rfl ?_
    refine q_gi eX9_number_33 fl_RX9_133 (Or.inl rfl) m0h5 (z := (st i)) rfl ?_
    refine q_pi eX9_number_36 fl_RX9_169 (fun q hq => by cases hq; exact Or.inl rfl) (Or.inl rfl) m0h5 (Nat.le_of_ble_eq_true rfl) (l2 := [th, 0, bl, tl, (st i), 0, ea, eo, 0, 0, 0, ud, g0, g1, g2, g3, (st i), ne, se, 0]) rfl (fun h8 e9 => ?_)
    have k10 := am_at e9
    have k11 := (am_ne e9 (n + 2) (by omega)).trans m1h5
    refine q_blk (lv2 := [(0, vr n), (1, vi lo), (2, vi hi), (3, vi 0)]) (st2 := []) kX9_number_39 rfl ?_
    refine am_lp3 (I := fun (v : Int) (hh : AH) (q : Int) => (st i ≤ q ∧ q ≤ en9) ∧ MM hh n th bl tl q 0 ea eo ud g0 g1 g2 g3 (st i) ne se D ∧ am_fr h hh n (n + 1) ∧ v = gm_vm bf (st i) (q - st i).toNat ∧ (0 ≤ v ∧ v ≤ 1000000)) (μ := fun (v : Int) (hh : AH) (q : Int) => (en9 - q).toNat) (G := fun (v : Int) (hh : AH) (q : Int) => AQ w m_X9_number 3 41 [(0, vr n), (1, vi lo), (2, vi hi), (3, vi v)] [] hh (am_int (fun z h1 => ((∃ px, rN kd st vl lo hi i = .inr z ∧ kd i = 2 ∧ TP tx st N px (i + 1) ∧ MM h1 n th bl tl px 0 ea eo ud g0 g1 g2 g3 (st i) ne se D) ∨ (∃ px ns' e a, rN kd st vl lo hi i = .inl (e, a) ∧ (e ≠ 0 ∧ am_r e) ∧ MM h1 n th bl tl px e a eo ud g0 g1 g2 g3 ns' ne se D)) ∧ 0 ≤ z ∧ z ≤ 1000000 ∧ am_f2 h h1 n))) ?_ 0 h8 (st i) (⟨⟨by omega, by omega⟩, ⟨k10, k11⟩, am_fr.tr Fh5 (am_fr.st e9 (by omega) (by omega)), by rw [Int.sub_self]; rfl, by omega⟩)
    intro v hh q hI13 ih12
    obtain ⟨⟨q0, q1⟩, hm9, hf9, hv9, hvr⟩ := hI13
    obtain ⟨m0', m1'⟩ := id hm9
    have hb9 := (hf9.2 (n + 1) (by omega)).trans hb
    have hTq := gm_T_r hx (tl := tl) (k := q) (by omega)
    have hve : (q < en9 → 48 ≤ gm_T bf tl q ∧ gm_T bf tl q ≤ 57 ∧ bf q = gm_T bf tl q) ∧ (q = en9 → ¬ (48 ≤ gm_T bf tl q ∧ gm_T bf tl q ≤ 57)) := ⟨fun c => hdg q q0 c, fun c => by rw [c]; exact hnd⟩
    obtain ⟨hve1, hve2⟩ := id hve
    refine q_blk (lv2 := [(0, vr n), (1, vi lo), (2, vi hi), (3, vi v)]) (st2 := [vr n, vr n]) kX9_number_41 rfl ?_
    refine q_gi eX9_number_43 fl_RX9_133 (Or.inl rfl) m0' (z := q) rfl ?_
    refine q_Vi (av := [vi q]) (st := []) (c_X9_byteAt hm9 hb9 hl (k := q) (by omega) (by omega)) lk_RX9_136 (by decide) rfl rfl hm9.ob ⟨_, rfl, rfl⟩ (Nat.le_of_ble_eq_true rfl) eX9_number_46 (fun z14 e15 => ?_)
    subst e15
    refine q_Si (av := [vi (gm_T bf tl q)]) (st := []) (c_X9_isDigit (x := (gm_T bf tl q)) ⟨by omega, by omega⟩) lk_RX9_166 (by decide) rfl rfl (Nat.le_of_ble_eq_true rfl) eX9_number_49 (fun z16 e17 => ?_)
    rcases e17 with ⟨rfl, e17⟩ | ⟨rfl, e17⟩
    · skip
      refine AQ.of (AS.if_eq_f eX9_number_52 ⟨by decide, by decide⟩ (by decide) (by decide)) ?_
      refine AQ.of (AS.ldc (z := 1000000) eX9_number_55 (am_gw 1298 (by decide +kernel) (by decide +kernel))) ?_
      refine q_blk (lv2 := [(0, vr n), (1, vi lo), (2, vi hi), (3, vi v)]) (st2 := [vr n, vr n, vi (10 * v), vi 1000000]) kX9_number_57 rfl ?_
      refine q_gi eX9_number_63 fl_RX9_133 (Or.inl rfl) m0' (z := q) rfl ?_
      refine q_Vi (av := [vi q]) (st := [vi (10 * v), vi 1000000]) (c_X9_byteAt hm9 hb9 hl (k := q) (by omega) (by omega)) lk_RX9_136 (by decide) rfl rfl hm9.ob ⟨_, rfl, rfl⟩ (Nat.le_of_ble_eq_true rfl) eX9_number_66 (fun z18 e19 => ?_)
      subst e19
      refine q_blk (lv2 := [(0, vr n), (1, vi lo), (2, vi hi), (3, vi v)]) (st2 := [vi (((10 * v) + (gm_T bf tl q)) - 48), vi 1000000]) kX9_number_69 rfl ?_
      refine q_Si (av := [vi 1000000, vi (((10 * v) + (gm_T bf tl q)) - 48)]) (st := []) (c_X9_min (by first | assumption | exact ⟨by omega, by omega⟩) (by first | assumption | exact ⟨by omega, by omega⟩)) lk_RX9_50 (by decide) rfl rfl (Nat.le_of_ble_eq_true rfl) eX9_number_73 (fun z20 e21 => ?_)
      subst e21
      have lo9 := gm_lo_r 1000000 (((10 * v) + (gm_T bf tl q)) - 48)
      refine q_blk (lv2 := [(0, vr n), (1, vi lo), (2, vi hi), (3, vi (gm_lo 1000000 (((10 * v) + (gm_T bf tl q)) - 48)))]) (st2 := [vr n, vr n]) kX9_number_76 rfl ?_
      refine q_gi eX9_number_79 fl_RX9_133 (Or.inl rfl) m0' (z := q) rfl ?_
      refine q_blk (lv2 := [(0, vr n), (1, vi lo), (2, vi hi), (3, vi (gm_lo 1000000 (((10 * v) + (gm_T bf tl q)) - 48)))]) (st2 := [vi (q + 1), vr n]) kX9_number_82 rfl ?_
      refine q_pi eX9_number_84 fl_RX9_133 (fun q hq => by cases hq; exact Or.inl rfl) (Or.inl rfl) m0' (Nat.le_of_ble_eq_true rfl) (l2 := [th, 0, bl, tl, (q + 1), 0, ea, eo, 0, 0, 0, ud, g0, g1, g2, g3, (st i), ne, se, 0]) rfl (fun h22 e23 => ?_)
      have k24 := am_at e23
      have k25 := (am_ne e23 (n + 2) (by omega)).trans m1'
      refine q_goto (tgt := 41) eX9_number_87 (by decide) ?_
      exact ih12 (gm_lo 1000000 (((10 * v) + (gm_T bf tl q)) - 48)) h22 (q + 1) (⟨⟨by omega, by omega⟩, ⟨k24, k25⟩, am_fr.tr hf9 (am_fr.st e23 (by omega) (by omega)), by rw [gm_vm_s (by omega), ← hv9, (hdg q q0 (by omega)).2.2], by unfold gm_lo; split <;> omega⟩) (by omega)
    · skip
      refine AQ.of (AS.if_eq_t (tgt := 90) eX9_number_52 (by decide) ⟨by decide, by decide⟩ (by decide)) ?_
      have hqe : q = en9 := by
        by_cases c : q < en9
        · have := hve1 c; omega
        · omega
      rw [← hqe] at hva hvm
      rw [← hv9] at hva
      refine q_blk (lv2 := [(0, vr n), (1, vi lo), (2, vi hi), (3, vi v)]) (st2 := [vi hi, vi lo, vi v]) kX9_number_90 rfl ?_
      refine q_Si (av := [vi v, vi lo, vi hi]) (st := []) (c_X9_in (by first | assumption | exact ⟨by omega, by omega⟩) (by first | assumption | exact ⟨by omega, by omega⟩) (by first | assumption | exact ⟨by omega, by omega⟩)) lk_RX9_57 (by decide) rfl rfl (Nat.le_of_ble_eq_true rfl) eX9_number_93 (fun z26 e27 => ?_)
      rcases e27 with ⟨rfl, e27⟩ | ⟨rfl, e27⟩
      · skip
        refine AQ.of (AS.if_ne_t (tgt := 109) eX9_number_96 (by decide) ⟨by decide, by decide⟩ (by decide)) ?_
        refine q_blk (lv2 := [(0, vr n), (1, vi lo), (2, vi hi), (3, vi v)]) (st2 := [vi v]) kX9_number_109 rfl ?_
        exact q_ri rfl eX9_number_110 ⟨v, rfl, Or.inl ⟨_, by unfold rN; rw [if_pos hk2, if_pos (by omega)]; exact congrArg Sum.inr (by omega), hk2, ⟨⟨by omega, by omega⟩, by omega, by rw [show q = en9 by omega]; exact hTe⟩, hm9⟩, by omega, by omega, hf9.f2⟩
      · skip
        refine AQ.of (AS.if_ne_f eX9_number_96 ⟨by decide, by decide⟩ (by decide) (by decide)) ?_
        refine q_blk (lv2 := [(0, vr n), (1, vi lo), (2, vi hi), (3, vi v)]) (st2 := [vr n, vi (-3), vr n]) kX9_number_99 rfl ?_
        refine q_gi eX9_number_103 fl_RX9_169 (Or.inl rfl) m0' (z := (st i)) rfl ?_
        refine AQ.callVv (av := [vi (-3), vi (st i)]) (st := []) (c_X9_report_g hm9 (k := (-3)) (a := (st i))) lk_RX9_162 (by decide) rfl rfl hm9.ob ⟨_, rfl, rfl⟩ (Nat.le_of_ble_eq_true rfl) eX9_number_106 (fun h30 e29 => ?_)
        obtain ⟨Mh30, Fh30⟩ := e29
        have Vh30 : am_f2 h h30 n := (hf9.f2).tr (Fh30.f2)
        have hbh30 : h30.1 (n + 1) = some (100, 800, bf, am_N) := (Vh30.2 (n + 1) (by omega) (by omega)).trans hb
        obtain ⟨m0h30, m1h30⟩ := id Mh30
        have Yh30 : ((-3) : Int) ≠ 0 ∧ am_r (-3) := ⟨by decide, by decide, by decide⟩
        refine q_blk (lv2 := [(0, vr n), (1, vi lo), (2, vi hi), (3, vi v)]) (st2 := [vi v]) kX9_number_109 rfl ?_
        exact q_ri rfl eX9_number_110 ⟨v, rfl, Or.inr ⟨_, _, _, _, by unfold rN; rw [if_pos hk2, if_neg (by omega)], ⟨by decide, by decide, by decide⟩, Mh30⟩, by omega, by omega, Vh30⟩
  · skip
    refine AQ.of (AS.if_ne_f eX9_number_16 ⟨by decide, by decide⟩ (by decide) (by decide)) ?_
    have hk2 : ¬ kd i = 2 := fun q9 => by have := hch.2.2.2.1.mp q9; omega
    refine q_blk (lv2 := [(0, vr n), (1, vi lo), (2, vi hi)]) (st2 := [vr n, vi (-2), vr n]) kX9_number_19 rfl ?_
    refine q_gi eX9_number_23 fl_RX9_133 (Or.inl rfl) m0h5 (z := (st i)) rfl ?_
    refine AQ.callVv (av := [vi (-2), vi (st i)]) (st := []) (c_X9_report_g Mh5 (k := (-2)) (a := (st i))) lk_RX9_162 (by decide) rfl rfl Mh5.ob ⟨_, rfl, rfl⟩ (Nat.le_of_ble_eq_true rfl) eX9_number_26 (fun h33 e32 => ?_)
    obtain ⟨Mh33, Fh33⟩ := e32
    have Vh33 : am_f2 h h33 n := Vh5.tr (Fh33.f2)
    have hbh33 : h33.1 (n + 1) = some (100, 800, bf, am_N) := (Vh33.2 (n + 1) (by omega) (by omega)).trans hb
    obtain ⟨m0h33, m1h33⟩ := id Mh33
    have Yh33 : ((-2) : Int) ≠ 0 ∧ am_r (-2) := ⟨by decide, by decide, by decide⟩
    refine q_blk (lv2 := [(0, vr n), (1, vi lo), (2, vi hi)]) (st2 := [vi 0]) kX9_number_29 rfl ?_
    exact q_ri rfl eX9_number_30 ⟨0, rfl, Or.inr ⟨_, _, _, _, if_neg hk2, ⟨by decide, by decide, by decide⟩, Mh33⟩, by omega, by omega, Vh33⟩

set_option maxHeartbeats 1000000 in
theorem c_X9_number_b {w : am_w} {h : AH} {n : Nat} {th bl tl ps er ea eo ud g0 g1 g2 g3 ns ne se : Int} {D : Int → Int} (hm : MM h n th bl tl ps er ea eo ud g0 g1 g2 g3 ns ne se D) (re : er ≠ 0 ∧ am_r er) {lo hi : Int}  : AE w m_X9_number 2 [vr n, vi lo, vi hi] h (am_intp h (fun z => z = 0)) := by
  refine AE.of wf_X9_number (Nat.le_of_ble_eq_true rfl) (am_ok_ip) ?_
  obtain ⟨m0, m1⟩ := id hm
  refine q_blk (lv2 := [(0, vr n), (1, vi lo), (2, vi hi)]) (st2 := [vr n]) kX9_number_0 rfl ?_
  refine q_Vi (av := []) (st := []) (c_X9_isGood_b hm re) lk_RX9_145 (by decide) rfl rfl hm.ob ⟨_, rfl, rfl⟩ (Nat.le_of_ble_eq_true rfl) eX9_number_1 (fun z1 e2 => ?_)
  subst e2
  refine AQ.of (AS.if_ne_f eX9_number_4 ⟨by decide, by decide⟩ (by decide) (by decide)) ?_
  refine q_blk (lv2 := [(0, vr n), (1, vi lo), (2, vi hi)]) (st2 := [vi 0]) kX9_number_7 rfl ?_
  exact q_ri rfl eX9_number_8 ⟨0, rfl, rfl, rfl⟩
