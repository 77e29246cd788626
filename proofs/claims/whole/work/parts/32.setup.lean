/-! CornerClaims$Setup: its cells; tokens, one by one. -/
/-- the reader: where it is, the latest number, x of a point, how much code, a score seen, the error and its place; the code -/
def SU (h : AH) (t u b j : Nat) (kd st vl : Int → Int) (he nu px cl hs er ea : Int) (cd : Int → Int) : Prop := ∃ tc, h.1 t = some (5, 15, am_L [0, 0, 0, 0, 0, 0, 0, tc, he, nu, px, cl, hs, er, ea], am_G [some u, some b, some j, some (t + 1), some (t + 2), some (t + 3), some (t + 4), none, none, none, none, none, none, none, none]) ∧ h.1 (t + 1) = some (100, 801, kd, am_N) ∧ h.1 (t + 2) = some (100, 801, st, am_N) ∧ h.1 (t + 3) = some (100, 801, vl, am_N) ∧ h.1 (t + 4) = some (100, 800, cd, am_N)
theorem SU.ob {h : AH} {t u b j : Nat} {kd st vl : Int → Int} {he nu px cl hs er ea : Int} {cd : Int → Int} (hS : SU h t u b j kd st vl he nu px cl hs er ea cd) : am_ob h t 5 := by
  obtain ⟨tc, c, -⟩ := hS
  exact ⟨_, _, _, c⟩
theorem SU.kept {h h1 : AH} {t u b j : Nat} {kd st vl : Int → Int} {he nu px cl hs er ea : Int} {cd : Int → Int} {lo hi : Nat} (hS : SU h t u b j kd st vl he nu px cl hs er ea cd) (f : am_fr h h1 lo hi) (hd : t + 5 ≤ lo ∨ hi ≤ t) : SU h1 t u b j kd st vl he nu px cl hs er ea cd := by
  obtain ⟨tc, c0, c1, c2, c3, c4⟩ := hS
  exact ⟨tc, (f.2 _ (by omega)).trans c0, (f.2 _ (by omega)).trans c1, (f.2 _ (by omega)).trans c2, (f.2 _ (by omega)).trans c3, (f.2 _ (by omega)).trans c4⟩
/-- a number was asked for and is not there, or not within -/
def gm_nu (kd vl : Int → Int) (lo hi he e : Int) : Prop := (kd he ≠ 2 ∧ e = -2) ∨ (kd he = 2 ∧ ¬ (lo ≤ vl he ∧ vl he ≤ hi) ∧ e = -3)

set_option maxHeartbeats 1000000 in
theorem c_X6_kindHere {w : am_w} {h : AH} {t u b j : Nat} {kd st vl : Int → Int} {he nu px cl hs er ea : Int} {cd : Int → Int} (hS : SU h t u b j kd st vl he nu px cl hs er ea cd) (he0 : 0 ≤ he) (he1 : he < 801)  : AE w m_X6_kindHere 1 [vr t] h (am_intp h (fun z => z = kd he)) := by
  refine AE.of wf_X6_kindHere (Nat.le_of_ble_eq_true rfl) (am_ok_ip) ?_
  obtain ⟨tc, c0, c1, c2, c3, c4⟩ := id hS
  refine q_blk (lv2 := [(0, vr t)]) (st2 := [vr t]) kX6_kindHere_0 rfl ?_
  refine q_gi eX6_kindHere_1 fl_RX6_28 (Or.inl rfl) c0 (z := he) rfl ?_
  refine AQ.of (AS.if_lt_f eX6_kindHere_4 (by first | assumption | exact ⟨by omega, by omega⟩) (by omega) (by decide)) ?_
  refine q_blk (lv2 := [(0, vr t)]) (st2 := [vr t]) kX6_kindHere_7 rfl ?_
  refine q_gi eX6_kindHere_8 fl_RX6_28 (Or.inl rfl) c0 (z := he) rfl ?_
  refine q_blk (lv2 := [(0, vr t)]) (st2 := [vr t, vi he]) kX6_kindHere_11 rfl ?_
  refine q_gr eX6_kindHere_12 fl_RX6_9 (Or.inr ⟨_, rfl⟩) c0 rfl ?_
  refine q_al eX6_kindHere_15 c1 (by decide) ?_
  refine AQ.of (AS.ic_ge_f eX6_kindHere_16 (by first | assumption | exact ⟨by omega, by omega⟩) ⟨by decide, by decide⟩ (by omega) (by decide)) ?_
  refine q_blk (lv2 := [(0, vr t)]) (st2 := [vr t]) kX6_kindHere_19 rfl ?_
  refine q_gr eX6_kindHere_20 fl_RX6_9 (Or.inr ⟨_, rfl⟩) c0 rfl ?_
  refine q_blk (lv2 := [(0, vr t)]) (st2 := [vr t, vr (t + 1)]) kX6_kindHere_23 rfl ?_
  refine q_gi eX6_kindHere_24 fl_RX6_28 (Or.inl rfl) c0 (z := he) rfl ?_
  refine q_ia eX6_kindHere_27 c1 (by decide) (by omega) (by omega) (z := (kd he)) rfl ?_
  refine q_goto (tgt := 32) eX6_kindHere_28 (by decide) ?_
  exact q_ri rfl eX6_kindHere_32 ⟨(kd he), rfl, rfl, rfl⟩

set_option maxHeartbeats 1000000 in
theorem c_X6_valueHere {w : am_w} {h : AH} {t u b j : Nat} {kd st vl : Int → Int} {he nu px cl hs er ea : Int} {cd : Int → Int} (hS : SU h t u b j kd st vl he nu px cl hs er ea cd) (he0 : 0 ≤ he) (he1 : he < 801)  : AE w m_X6_valueHere 1 [vr t] h (am_intp h (fun z => z = vl he)) := by
  refine AE.of wf_X6_valueHere (Nat.le_of_ble_eq_true rfl) (am_ok_ip) ?_
  obtain ⟨tc, c0, c1, c2, c3, c4⟩ := id hS
  refine q_blk (lv2 := [(0, vr t)]) (st2 := [vr t]) kX6_valueHere_0 rfl ?_
  refine q_gi eX6_valueHere_1 fl_RX6_28 (Or.inl rfl) c0 (z := he) rfl ?_
  refine AQ.of (AS.if_lt_f eX6_valueHere_4 (by first | assumption | exact ⟨by omega, by omega⟩) (by omega) (by decide)) ?_
  refine q_blk (lv2 := [(0, vr t)]) (st2 := [vr t]) kX6_valueHere_7 rfl ?_
  refine q_gi eX6_valueHere_8 fl_RX6_28 (Or.inl rfl) c0 (z := he) rfl ?_
  refine q_blk (lv2 := [(0, vr t)]) (st2 := [vr t, vi he]) kX6_valueHere_11 rfl ?_
  refine q_gr eX6_valueHere_12 fl_RX6_18 (Or.inr ⟨_, rfl⟩) c0 rfl ?_
  refine q_al eX6_valueHere_15 c3 (by decide) ?_
  refine AQ.of (AS.ic_ge_f eX6_valueHere_16 (by first | assumption | exact ⟨by omega, by omega⟩) ⟨by decide, by decide⟩ (by omega) (by decide)) ?_
  refine q_blk (lv2 := [(0, vr t)]) (st2 := [vr t]) kX6_valueHere_19 rfl ?_
  refine q_gr eX6_valueHere_20 fl_RX6_18 (Or.inr ⟨_, rfl⟩) c0 rfl ?_
  refine q_blk (lv2 := [(0, vr t)]) (st2 := [vr t, vr (t + 3)]) kX6_valueHere_23 rfl ?_
  refine q_gi eX6_valueHere_24 fl_RX6_28 (Or.inl rfl) c0 (z := he) rfl ?_
  refine q_ia eX6_valueHere_27 c3 (by decide) (by omega) (by omega) (z := (vl he)) rfl ?_
  refine q_goto (tgt := 32) eX6_valueHere_28 (by decide) ?_
  exact q_ri rfl eX6_valueHere_32 ⟨(vl he), rfl, rfl, rfl⟩

set_option maxHeartbeats 1000000 in
theorem c_X6_fail {w : am_w} {h : AH} {t u b j : Nat} {kd st vl : Int → Int} {he nu px cl hs er ea : Int} {cd : Int → Int} (hS : SU h t u b j kd st vl he nu px cl hs er ea cd) (he0 : 0 ≤ he) (he1 : he < 801) {e : Int}  : AE w m_X6_fail 1 [vr t, vi e] h (am_int (fun z h1 => z = 0 ∧ SU h1 t u b j kd st vl he nu px cl hs e (st he) cd ∧ am_fr h h1 t (t + 5))) := by
  refine AE.of wf_X6_fail (Nat.le_of_ble_eq_true rfl) (am_ok_z (fun z h1 q => Or.inl q.1)) ?_
  obtain ⟨tc, c0, c1, c2, c3, c4⟩ := id hS
  refine q_blk (lv2 := [(0, vr t), (1, vi e)]) (st2 := [vi e, vr t]) kX6_fail_0 rfl ?_
  refine q_pi eX6_fail_2 fl_RX6_44 (fun q hq => by cases hq; exact Or.inl rfl) (Or.inl rfl) c0 (Nat.le_of_ble_eq_true rfl) (l2 := [0, 0, 0, 0, 0, 0, 0, tc, he, nu, px, cl, hs, e, ea]) rfl (fun h1 e2 => ?_)
  have k3 := am_at e2
  have k4 := (am_ne e2 (t + 1) (by omega)).trans c1
  have k5 := (am_ne e2 (t + 2) (by omega)).trans c2
  have k6 := (am_ne e2 (t + 3) (by omega)).trans c3
  have k7 := (am_ne e2 (t + 4) (by omega)).trans c4
  refine q_blk (lv2 := [(0, vr t), (1, vi e)]) (st2 := [vr t, vr t]) kX6_fail_5 rfl ?_
  refine q_gi eX6_fail_7 fl_RX6_28 (Or.inl rfl) k3 (z := he) rfl ?_
  refine AQ.of (AS.if_lt_f eX6_fail_10 (by first | assumption | exact ⟨by omega, by omega⟩) (by omega) (by decide)) ?_
  refine q_blk (lv2 := [(0, vr t), (1, vi e)]) (st2 := [vr t, vr t]) kX6_fail_13 rfl ?_
  refine q_gi eX6_fail_14 fl_RX6_28 (Or.inl rfl) k3 (z := he) rfl ?_
  refine q_blk (lv2 := [(0, vr t), (1, vi e)]) (st2 := [vr t, vi he, vr t]) kX6_fail_17 rfl ?_
  refine q_gr eX6_fail_18 fl_RX6_15 (Or.inr ⟨_, rfl⟩) k3 rfl ?_
  refine q_al eX6_fail_21 k5 (by decide) ?_
  refine AQ.of (AS.ic_ge_f eX6_fail_22 (by first | assumption | exact ⟨by omega, by omega⟩) ⟨by decide, by decide⟩ (by omega) (by decide)) ?_
  refine q_blk (lv2 := [(0, vr t), (1, vi e)]) (st2 := [vr t, vr t]) kX6_fail_25 rfl ?_
  refine q_gr eX6_fail_26 fl_RX6_15 (Or.inr ⟨_, rfl⟩) k3 rfl ?_
  refine q_blk (lv2 := [(0, vr t), (1, vi e)]) (st2 := [vr t, vr (t + 2), vr t]) kX6_fail_29 rfl ?_
  refine q_gi eX6_fail_30 fl_RX6_28 (Or.inl rfl) k3 (z := he) rfl ?_
  refine q_ia eX6_fail_33 k5 (by decide) (by omega) (by omega) (z := (st he)) rfl ?_
  refine q_goto (tgt := 38) eX6_fail_34 (by decide) ?_
  refine q_pi eX6_fail_38 fl_RX6_47 (fun q hq => by cases hq; exact Or.inl rfl) (Or.inl rfl) k3 (Nat.le_of_ble_eq_true rfl) (l2 := [0, 0, 0, 0, 0, 0, 0, tc, he, nu, px, cl, hs, e, (st he)]) rfl (fun h8 e9 => ?_)
  have k10 := am_at e9
  have k11 := (am_ne e9 (t + 1) (by omega)).trans k4
  have k12 := (am_ne e9 (t + 2) (by omega)).trans k5
  have k13 := (am_ne e9 (t + 3) (by omega)).trans k6
  have k14 := (am_ne e9 (t + 4) (by omega)).trans k7
  refine q_blk (lv2 := [(0, vr t), (1, vi e)]) (st2 := [vi 0]) kX6_fail_41 rfl ?_
  exact q_rz rfl eX6_fail_42 (by decide) ⟨0, rfl, rfl, ⟨_, k10, k11, k12, k13, k14⟩, (am_fr.rf.tr ((am_fr.st e2 (by omega) (by omega)).tr (am_fr.st e9 (by omega) (by omega))))⟩

set_option maxHeartbeats 1000000 in
theorem c_X6_take {w : am_w} {h : AH} {t u b j : Nat} {kd st vl : Int → Int} {he nu px cl hs er ea : Int} {cd : Int → Int} (hS : SU h t u b j kd st vl he nu px cl hs er ea cd) (he0 : 0 ≤ he) (he1 : he < 801) (kr : ∀ i, 0 ≤ i → i < 801 → -5 ≤ kd i ∧ kd i ≤ 100) (vq : ∀ i, 0 ≤ i → i < 801 → 0 ≤ vl i ∧ vl i ≤ 10000) {k : Int} (k0 : -10 ≤ k) (k1 : k ≤ 100)  : AE w m_X6_take 2 [vr t, vi k] h (am_int (fun z h1 => ((z = 1 ∧ kd he = k ∧ SU h1 t u b j kd st vl (he + 1) nu px cl hs er ea cd) ∨ (z = 0 ∧ kd he ≠ k ∧ SU h1 t u b j kd st vl he nu px cl hs (-2) (st he) cd)) ∧ am_fr h h1 t (t + 5))) := by
  refine AE.of wf_X6_take (Nat.le_of_ble_eq_true rfl) (am_ok_z (fun z h1 q => by rcases q.1 with q | q; exact Or.inr q.1; exact Or.inl q.1)) ?_
  obtain ⟨tc, c0, c1, c2, c3, c4⟩ := id hS
  have kr1 := kr he he0 he1
  refine q_blk (lv2 := [(0, vr t), (1, vi k)]) (st2 := [vr t]) kX6_take_0 rfl ?_
  refine q_Vi (av := []) (st := []) (c_X6_kindHere ⟨_, c0, c1, c2, c3, c4⟩ (by omega) (by omega)) lk_RX6_70 (by decide) rfl rfl ⟨_, _, _, c0⟩ ⟨_, rfl, rfl⟩ (Nat.le_of_ble_eq_true rfl) eX6_take_1 (fun z1 e2 => ?_)
  subst e2
  refine q_blk (lv2 := [(0, vr t), (1, vi k)]) (st2 := [vi k, vi (kd he)]) kX6_take_4 rfl ?_
  refine AQ.ic_eq (tgt := 15) eX6_take_5 (by decide) (by first | assumption | exact ⟨by omega, by omega⟩) (by first | assumption | exact ⟨by omega, by omega⟩) (fun br3 => ?_) (fun br3 => ?_)
  · skip
    refine q_blk (lv2 := [(0, vr t), (1, vi k)]) (st2 := [vr t, vr t]) kX6_take_15 rfl ?_
    refine q_gi eX6_take_17 fl_RX6_28 (Or.inl rfl) c0 (z := he) rfl ?_
    refine q_blk (lv2 := [(0, vr t), (1, vi k)]) (st2 := [vi (he + 1), vr t]) kX6_take_20 rfl ?_
    refine q_pi eX6_take_22 fl_RX6_28 (fun q hq => by cases hq; exact Or.inl rfl) (Or.inl rfl) c0 (Nat.le_of_ble_eq_true rfl) (l2 := [0, 0, 0, 0, 0, 0, 0, tc, (he + 1), nu, px, cl, hs, er, ea]) rfl (fun h4 e5 => ?_)
    have k6 := am_at e5
    have k7 := (am_ne e5 (t + 1) (by omega)).trans c1
    have k8 := (am_ne e5 (t + 2) (by omega)).trans c2
    have k9 := (am_ne e5 (t + 3) (by omega)).trans c3
    have k10 := (am_ne e5 (t + 4) (by omega)).trans c4
    refine q_blk (lv2 := [(0, vr t), (1, vi k)]) (st2 := [vi 1]) kX6_take_25 rfl ?_
    exact q_rz rfl eX6_take_26 (by decide) ⟨1, rfl, Or.inl ⟨rfl, by omega, ⟨_, k6, k7, k8, k9, k10⟩⟩, (am_fr.rf.tr (am_fr.st e5 (by omega) (by omega)))⟩
  · skip
    refine q_blk (lv2 := [(0, vr t), (1, vi k)]) (st2 := [vi (-2), vr t]) kX6_take_8 rfl ?_
    refine AQ.callVi (av := [vi (-2)]) (st := []) (c_X6_fail (e := (-2)) ⟨_, c0, c1, c2, c3, c4⟩ (by omega) (by omega)) lk_RX6_83 (by decide) rfl rfl ⟨_, _, _, c0⟩ ⟨_, rfl, rfl⟩ (Nat.le_of_ble_eq_true rfl) eX6_take_11 (fun z11 h13 e12 => ?_)
    obtain ⟨z110, Xh13, Fh13⟩ := e12
    subst z110
    obtain ⟨g14t, g140, g141, g142, g143, g144⟩ := id Xh13
    exact q_rz rfl eX6_take_14 (by decide) ⟨0, rfl, Or.inr ⟨rfl, by omega, ⟨_, g140, g141, g142, g143, g144⟩⟩, (am_fr.rf.tr Fh13)⟩
