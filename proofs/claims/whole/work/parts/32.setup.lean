/-! CornerClaims$Setup: its cells; tokens, one by one. -/
/-- the reader: where it is, the latest number, x of a point, how much code, a score seen, the error and its place; the code -/
def SU (h : AH) (t u b j : Nat) (kd st vl : Int → Int) (he nu px cl hs er ea : Int) (cd : Int → Int) : Prop := ∃ tc, h.1 t = some (5, 15, am_L [0, 0, 0, 0, 0, 0, 0, tc, he, nu, px, cl, hs, er, ea], am_G [some u, some b, some j, some (t + 1), some (t + 2), some (t + 3), some (t + 4), none, none, none, none, none, none, none, none]) ∧ h.1 (t + 1) = some (100, 801, kd, am_N) ∧ h.1 (t + 2) = some (100, 801, st, am_N) ∧ h.1 (t + 3) = some (100, 801, vl, am_N) ∧ h.1 (t + 4) = some (100, 800, cd, am_N)
theorem SU.ob {h : AH} {t u b j : Nat} {kd st vl : Int → Int} {he nu px cl hs er ea : Int} {cd : Int → Int} (hS : SU h t u b j kd st vl he nu px cl hs er ea cd) : am_ob h t 5 := by
  obtain ⟨tc, c, -⟩ := hS
  exact ⟨_, _, _, c⟩
theorem SU.kept {h h1 : AH} {t u b j : Nat} {kd st vl : Int → Int} {he nu px cl hs er ea : Int} {cd : Int → Int} {lo hi : Nat} (hS : SU h t u b j kd st vl he nu px cl hs er ea cd) (f : am_fr h h1 lo hi) (hd : t + 5 ≤ lo ∨ hi ≤ t) : SU h1 t u b j kd st vl he nu px cl hs er ea cd := by
  obtain ⟨tc, c0, c1, c2, c3, c4⟩ := hS
  exact ⟨tc, (f.2 _ (by omega)).trans c0, (f.2 _ (by omega)).trans c1, (f.2 _ (by omega)).trans c2, (f.2 _ (by omega)).trans c3, (f.2 _ (by omega)).trans c4⟩
/-- a number was asked for and is not there, or not within -/
def gm_nu (kd vl : Int → Int) (lo hi he e : Int) : Prop := (kd he ≠ 2 ∧ e = -2) ∨ (kd he = 2 ∧ ¬ (lo ≤ vl he ∧ vl he ≤ hi) ∧ e = -3)

set_option maxHeartbeats 1000000 in
theorem c_X6_kindHere {w : am_w} {h : AH} {t u b j : Nat} {kd st vl : Int → Int} {he nu px cl hs er ea : Int} {cd : Int → Int} (hS : SU h t u b j kd st vl he nu px cl hs er ea cd) (he0 : 0 ≤ he) (he1 : he < 801)  : AE w m_X6_kindHere 1 [vr t] h (am_intp h (fun z => z = kd he)) := by
  refine AE.of wf_X6_kindHere (Nat.le_of_ble_eq_true rfl) (am_ok_ip) ?_
  obtain ⟨tc, c0, c1, c2, c3, c4⟩ := id hS
  refine q_blk (lv2 := [(0, vr t)]) (st2 := [vr t]) kX6_kindHere_0 rfl ?_
  refine q_gi eX6_kindHere_1 fl_RX6_28 (Or.inl rfl) c0 (z := he) rfl ?_
  refine AQ.of (AS.if_lt_f eX6_kindHere_4 (by first | assumption | exact ⟨by omega, by omega⟩) (by omega) (by decide)) ?_
  refine q_blk (lv2 := [(0, vr t)]) (st2 := [vr t]) kX6_kindHere_7 rfl ?_
  refine q_gi eX6_kindHere_8 fl_RX6_28 (Or.inl rfl) c0 (z := he) rfl ?_
  refine q_blk (lv2 := [(0, vr t)]) (st2 := [vr t, vi he]) kX6_kindHere_11 rfl ?_
  refine q_gr eX6_kindHere_12 fl_RX6_9 (Or.inr ⟨_, rfl⟩) c0 rfl ?_
  refine q_al eX6_kindHere_15 c1 (by decide) ?_
  refine AQ.of (AS.ic_ge_f eX6_kindHere_16 (by first | assumption | exact ⟨by omega, by omega⟩) ⟨by decide, by decide⟩ (by omega) (by decide)) ?_
  refine q_blk (lv2 := [(0, vr t)]) (st2 := [vr t]) kX6_kindHere_19 rfl ?_
  refine q_gr eX6_kindHere_20 fl_RX6_9 (Or.inr ⟨_, rfl⟩) c0 rfl ?_
  refine q_blk (lv2 := [(0, vr t)]) (st2 := [vr t, vr (t + 1)]) kX6_kindHere_23 rfl ?_
  refine q_gi eX6_kindHere_24 fl_RX6_28 (Or.inl rfl) c0 (z := he) rfl ?_
  refine q_ia eX6_kindHere_27 c1 (by decide) (by omega) (by omega) (z := (kd he)) rfl ?_
  refine q_goto (tgt := 32) eX6_kindHere_28 (by decide) ?_
  exact q_ri rfl eX6_kindHere_32 ⟨(kd he), rfl, rfl, rfl⟩

set_option maxHeartbeats 1000000 in
theorem c_X6_valueHere {w : am_w} {h : AH} {t u b j : Nat} {kd st vl : Int → Int} {he nu px cl hs er ea : Int} {cd : Int → Int} (hS : SU h t u b j kd st vl he nu px cl hs er ea cd) (he0 : 0 ≤ he) (he1 : he < 801)  : AE w m_X6_valueHere 1 [vr t] h (am_intp h (fun z => z = vl he)) := by
  refine AE.of wf_X6_valueHere (Nat.le_of_ble_eq_true rfl) (am_ok_ip) ?_
  obtain ⟨tc, c0, c1, c2, c3, c4⟩ := id hS
  refine q_blk (lv2 := [(0, vr t)]) (st2 := [vr t]) kX6_valueHere_0 rfl ?_
  refine q_gi eX6_valueHere_1 fl_RX6_28 (Or.inl rfl) c0 (z := he) rfl ?_
  refine AQ.of (AS.if_lt_f eX6_valueHere_4 (by first | assumption | exact ⟨by omega, by omega⟩) (by omega) (by decide)) ?_
  refine q_blk (lv2 := [(0, vr t)]) (st2 := [vr t]) kX6_valueHere_7 rfl ?_
  refine q_gi eX6_valueHere_8 fl_RX6_28 (Or.inl rfl) c0 (z := he) rfl ?_
  refine q_blk (lv2 := [(0, vr t)]) (st2 := [vr t, vi he]) kX6_valueHere_11 rfl ?_
  refine q_gr eX6_valueHere_12 fl_RX6_18 (Or.inr ⟨_, rfl⟩) c0 rfl ?_
  refine q_al eX6_valueHere_15 c3 (by decide) ?_
  refine AQ.of (AS.ic_ge_f eX6_valueHere_16 (by first | assumption | exact ⟨by omega, by omega⟩) ⟨by decide, by decide⟩ (by omega) (by decide)) ?_
  refine q_blk (lv2 := [(0, vr t)]) (st2 := [vr t]) kX6_valueHere_19 rfl ?_
  refine q_gr eX6_valueHere_20 fl_RX6_18 (Or.inr ⟨_, rfl⟩) c0 rfl ?_
  refine q_blk (lv2 := [(0, vr t)]) (st2 := [vr t, vr (t + 3)]) kX6_valueHere_23 rfl ?_
  refine q_gi eX6_valueHere_24 fl_RX6_28 (Or.inl rfl) c0 (z := he) rfl ?_
  refine q_ia eX6_valueHere_27 c3 (by decide) (by omega) (by omega) (z := (vl he)) rfl ?_
  refine q_goto (tgt := 32) eX6_valueHere_28 (by decide) ?_
  exact q_ri rfl eX6_valueHere_32 ⟨(vl he), rfl, rfl, rfl⟩

set_option maxHeartbeats 1000000 in
theorem c_X6_fail {w : am_w} {h : AH} {t u b j : Nat} {kd st vl : Int → Int} {he nu px cl hs er ea : Int} {cd : Int → Int} (hS : SU h t u b j kd st vl he nu px cl hs er ea cd) (he0 : 0 ≤ he) (he1 : he < 801) {e : Int}  : AE w m_X6_fail 1 [vr t, vi e] h (am_int (fun z h1 => z = 0 ∧ SU h1 t u b j kd st vl he nu px cl hs e (st he) cd ∧ am_fr h h1 t (t + 5))) := by
  refine AE.of wf_X6_fail (Nat.le_of_ble_eq_true rfl) (am_ok_z (fun z h1 q => Or.inl q.1)) ?_
  obtain ⟨tc, c0, c1, c2, c3, c4⟩ := id hS
  refine q_blk (lv2 := [(0, vr t), (1, vi e)]) (st2 := [vi e, vr t]) kX6_fail_0 rfl ?_
  refine q_pi eX6_fail_2 fl_RX6_44 (fun q hq => by cases hq; exact Or.inl rfl) (Or.inl rfl) c0 (Nat.le_of_ble_eq_true rfl) (l2 := [0, 0, 0, 0, 0, 0, 0, tc, he, nu, px, cl, hs, e, ea]) rfl (fun h1 e2 => ?_)
  have k3 := am_at e2
  have k4 := (am_ne e2 (t + 1) (by omega)).trans c1
  have k5 := (am_ne e2 (t + 2) (by omega)).trans c2
  have k6 := (am_ne e2 (t + 3) (by omega)).trans c3
  have k7 := (am_ne e2 (t + 4) (by omega)).trans c4
  refine q_blk (lv2 := [(0, vr t), (1, vi e)]) (st2 := [vr t, vr t]) kX6_fail_5 rfl ?_
  refine q_gi eX6_fail_7 fl_RX6_28 (Or.inl rfl) k3 (z := he) rfl ?_
  refine AQ.of (AS.if_lt_f eX6_fail_10 (by first | assumption | exact ⟨by omega, by omega⟩) (by omega) (by decide)) ?_
  refine q_blk (lv2 := [(0, vr t), (1, vi e)]) (st2 := [vr t, vr t]) kX6_fail_13 rfl ?_
  refine q_gi eX6_fail_14 fl_RX6_28 (Or.inl rfl) k3 (z := he) rfl ?_
  refine q_blk (lv2 := [(0, vr t), (1, vi e)]) (st2 := [vr t, vi he, vr t]) kX6_fail_17 rfl ?_
  refine q_gr eX6_fail_18 fl_RX6_15 (Or.inr ⟨_, rfl⟩) k3 rfl ?_
  refine q_al eX6_fail_21 k5 (by decide) ?_
  refine AQ.of (AS.ic_ge_f eX6_fail_22 (by first | assumption | exact ⟨by omega, by omega⟩) ⟨by decide, by decide⟩ (by omega) (by decide)) ?_
  refine q_blk (lv2 := [(0, vr t), (1, vi e)]) (st2 := [vr t, vr t]) kX6_fail_25 rfl ?_
  refine q_gr eX6_fail_26 fl_RX6_15 (Or.inr ⟨_, rfl⟩) k3 rfl ?_
  refine q_blk (lv2 := [(0, vr t), (1, vi e)]) (st2 := [vr t, vr (t + 2), vr t]) kX6_fail_29 rfl ?_
  refine q_gi eX6_fail_30 fl_RX6_28 (Or.inl rfl) k3 (z := he) rfl ?_
  refine q_ia eX6_fail_33 k5 (by decide) (by omega) (by omega) (z := (st he)) rfl ?_
  refine q_goto (tgt := 38) eX6_fail_34 (by decide) ?_
  refine q_pi eX6_fail_38 fl_RX6_47 (fun q hq => by cases hq; exact Or.inl rfl) (Or.inl rfl) k3 (Nat.le_of_ble_eq_true rfl) (l2 := [0, 0, 0, 0, 0, 0, 0, tc, he, nu, px, cl, hs, e, (st he)]) rfl (fun h8 e9 => ?_)
  have k10 := am_at e9
  have k11 := (am_ne e9 (t + 1) (by omega)).trans k4
  have k12 := (am_ne e9 (t + 2) (by omega)).trans k5
  have k13 := (am_ne e9 (t + 3) (by omega)).trans k6
  have k14 := (am_ne e9 (t + 4) (by omega)).trans k7
  refine q_blk (lv2 := [(0, vr t), (1, vi e)]) (st2 := [vi 0]) kX6_fail_41 rfl ?_
  exact q_rz rfl eX6_fail_42 (by decide) ⟨0, rfl, rfl, ⟨_, k10, k11, k12, k13, k14⟩, (am_fr.rf.tr ((am_fr.st e2 (by omega) (by omega)).tr (am_fr.st e9 (by omega) (by omega))))⟩

set_option maxHeartbeats 1000000 in
theorem c_X6_take {w : am_w} {h : AH} {t u b j : Nat} {kd st vl : Int → Int} {he nu px cl hs er ea : Int} {cd : Int → Int} (hS : SU h t u b j kd st vl he nu px cl hs er ea cd) (he0 : 0 ≤ he) (he1 : he < 801) (kr : ∀ i, 0 ≤ i → i < 801 → -5 ≤ kd i ∧ kd i ≤ 100) (vq : ∀ i, 0 ≤ i → i < 801 → 0 ≤ vl i ∧ vl i ≤ 10000) {k : Int} (k0 : -10 ≤ k) (k1 : k ≤ 100)  : AE w m_X6_take 2 [vr t, vi k] h (am_int (fun z h1 => ((z = 1 ∧ kd he = k ∧ SU h1 t u b j kd st vl (he + 1) nu px cl hs er ea cd) ∨ (z = 0 ∧ kd he ≠ k ∧ SU h1 t u b j kd st vl he nu px cl hs (-2) (st he) cd)) ∧ am_fr h h1 t (t + 5))) := by
  refine AE.of wf_X6_take (Nat.le_of_ble_eq_true rfl) (am_ok_z (fun z h1 q => by rcases q.1 with q | q; exact Or.inr q.1; exact Or.inl q.1)) ?_
  obtain ⟨tc, c0, c1, c2, c3, c4⟩ := id hS
  have kr1 := kr he he0 he1
  refine q_blk (lv2 := [(0, vr t), (1, vi k)]) (st2 := [vr t]) kX6_take_0 rfl ?_
  refine q_Vi (av := []) (st := []) (c_X6_kindHere ⟨_, c0, c1, c2, c3, c4⟩ (by omega) (by omega)) lk_RX6_70 (by decide) rfl rfl ⟨_, _, _, c0⟩ ⟨_, rfl, rfl⟩ (Nat.le_of_ble_eq_true rfl) eX6_take_1 (fun z1 e2 => ?_)
  subst e2
  refine q_blk (lv2 := [(0, vr t), (1, vi k)]) (st2 := [vi k, vi (kd he)]) kX6_take_4 rfl ?_
  refine AQ.ic_eq (tgt := 15) eX6_take_5 (by decide) (by first | assumption | exact ⟨by omega, by omega⟩) (by first | assumption | exact ⟨by omega, by omega⟩) (fun br3 => ?_) (fun br3 => ?_)
  · skip
    refine q_blk (lv2 := [(0, vr t), (1, vi k)]) (st2 := [vr t, vr t]) kX6_take_15 rfl ?_
    refine q_gi eX6_take_17 fl_RX6_28 (Or.inl rfl) c0 (z := he) rfl ?_
    refine q_blk (lv2 := [(0, vr t), (1, vi k)]) (st2 := [vi (he + 1), vr t]) kX6_take_20 rfl ?_
    refine q_pi eX6_take_22 fl_RX6_28 (fun q hq => by cases hq; exact Or.inl rfl) (Or.inl rfl) c0 (Nat.le_of_ble_eq_true rfl) (l2 := [0, 0, 0, 0, 0, 0, 0, tc, (he + 1), nu, px, cl, hs, er, ea]) rfl (fun h4 e5 => ?_)
    have k6 := am_at e5
    have k7 := (am_ne e5 (t + 1) (by omega)).trans c1
    have k8 := (am_ne e5 (t + 2) (by omega)).trans c2
    have k9 := (am_ne e5 (t + 3) (by omega)).trans c3
    have k10 := (am_ne e5 (t + 4) (by omega)).trans c4
    refine q_blk (lv2 := [(0, vr t), (1, vi k)]) (st2 := [vi 1]) kX6_take_25 rfl ?_
    exact q_rz rfl eX6_take_26 (by decide) ⟨1, rfl, Or.inl ⟨rfl, by omega, ⟨_, k6, k7, k8, k9, k10⟩⟩, (am_fr.rf.tr (am_fr.st e5 (by omega) (by omega)))⟩
  · skip
    refine q_blk (lv2 := [(0, vr t), (1, vi k)]) (st2 := [vi (-2), vr t]) kX6_take_8 rfl ?_
    refine AQ.callVi (av := [vi (-2)]) (st := []) (c_X6_fail (e := (-2)) ⟨_, c0, c1, c2, c3, c4⟩ (by omega) (by omega)) lk_RX6_83 (by decide) rfl rfl ⟨_, _, _, c0⟩ ⟨_, rfl, rfl⟩ (Nat.le_of_ble_eq_true rfl) eX6_take_11 (fun z11 h13 e12 => ?_)
    obtain ⟨z110, Xh13, Fh13⟩ := e12
    subst z110
    obtain ⟨g14t, g140, g141, g142, g143, g144⟩ := id Xh13
    exact q_rz rfl eX6_take_14 (by decide) ⟨0, rfl, Or.inr ⟨rfl, by omega, ⟨_, g140, g141, g142, g143, g144⟩⟩, (am_fr.rf.tr Fh13)⟩

/-- what reading says: an error and its place, or what was read -/
def rN (kd st vl : Int → Int) (lo hi he : Int) : (Int × Int) ⊕ Int := if kd he = 2 then (if lo ≤ vl he ∧ vl he ≤ hi then .inr (vl he) else .inl (-3, st he)) else .inl (-2, st he)
def rT (kd st : Int → Int) (k he : Int) : (Int × Int) ⊕ Unit := if kd he = k then .inr () else .inl (-2, st he)
def rB {A B : Type} (a : (Int × Int) ⊕ A) (f : A → (Int × Int) ⊕ B) : (Int × Int) ⊕ B := match a with | .inl e => .inl e | .inr x => f x
theorem rB_l {A B : Type} {a : (Int × Int) ⊕ A} {e : Int × Int} (h : a = .inl e) (f : A → (Int × Int) ⊕ B) : rB a f = .inl e := by rw [h]; rfl
theorem rB_r {A B : Type} {a : (Int × Int) ⊕ A} {x : A} (h : a = .inr x) (f : A → (Int × Int) ⊕ B) : rB a f = f x := by rw [h]; rfl
def rP (kd st vl : Int → Int) (w hh he : Int) : (Int × Int) ⊕ (Int × Int) := rB (rN kd st vl 0 w he) fun x => rB (rN kd st vl 0 hh (he + 1)) fun y => .inr (x, y)
def rF (kd st vl : Int → Int) : (Int × Int) ⊕ (Int × Int) := rB (rT kd st 3 0) fun _ => rB (rN kd st vl 2 30 1) fun x => rB (rN kd st vl 2 30 2) fun y => rB (rT kd st 59 3) fun _ => .inr (x, y)
theorem rN_r {kd st vl : Int → Int} {lo hi he v : Int} (h : rN kd st vl lo hi he = .inr v) : kd he = 2 ∧ v = vl he ∧ lo ≤ v ∧ v ≤ hi := by
  unfold rN at h
  split at h
  · split at h
    · cases h; exact ⟨‹_›, rfl, ‹_›⟩
    · cases h
  · cases h
/-- the reader after an error -/
def SF (h : AH) (t u b j : Nat) (kd st vl : Int → Int) (e a : Int) : Prop := ∃ he nu px cl hs cd, SU h t u b j kd st vl he nu px cl hs e a cd ∧ 0 ≤ cl ∧ cl ≤ 800
theorem SF.kept {h h1 : AH} {t u b j : Nat} {kd st vl : Int → Int} {e a : Int} {lo hi : Nat} (hS : SF h t u b j kd st vl e a) (f : am_fr h h1 lo hi) (hd : t + 5 ≤ lo ∨ hi ≤ t) : SF h1 t u b j kd st vl e a := by
  obtain ⟨he, nu, px, cl, hs, cd, c, d⟩ := hS
  exact ⟨he, nu, px, cl, hs, cd, c.kept f hd, d⟩

set_option maxHeartbeats 1000000 in
theorem c_X6_seeNumber {w : am_w} {h : AH} {t u b j : Nat} {kd st vl : Int → Int} {he nu px cl hs er ea : Int} {cd : Int → Int} (hS : SU h t u b j kd st vl he nu px cl hs er ea cd) (he0 : 0 ≤ he) (he1 : he < 801) (kr : ∀ i, 0 ≤ i → i < 801 → -5 ≤ kd i ∧ kd i ≤ 100) (vq : ∀ i, 0 ≤ i → i < 801 → 0 ≤ vl i ∧ vl i ≤ 10000) (cl0 : 0 ≤ cl) (cl1 : cl ≤ 800) {lo hi : Int} (lo0 : 0 ≤ lo) (hi1 : hi ≤ 10000) (lo1 : lo ≤ 10000) (hi0 : 0 ≤ hi)  : AE w m_X6_seeNumber 2 [vr t, vi lo, vi hi] h (am_int (fun z h1 => ((z = 1 ∧ rN kd st vl lo hi he = .inr (vl he) ∧ SU h1 t u b j kd st vl he (vl he) px cl hs er ea cd) ∨ (z = 0 ∧ ∃ e a, rN kd st vl lo hi he = .inl (e, a) ∧ SF h1 t u b j kd st vl e a)) ∧ am_fr h h1 t (t + 5))) := by
  refine AE.of wf_X6_seeNumber (Nat.le_of_ble_eq_true rfl) (am_ok_z (fun z h1 q => by rcases q.1 with q | q; exact Or.inr q.1; exact Or.inl q.1)) ?_
  obtain ⟨tc, c0, c1, c2, c3, c4⟩ := id hS
  have kr1 := kr he he0 he1
  have vr1 := vq he he0 he1
  refine q_blk (lv2 := [(0, vr t), (1, vi lo), (2, vi hi)]) (st2 := [vr t]) kX6_seeNumber_0 rfl ?_
  refine q_Vi (av := []) (st := []) (c_X6_kindHere ⟨_, c0, c1, c2, c3, c4⟩ (by omega) (by omega)) lk_RX6_70 (by decide) rfl rfl ⟨_, _, _, c0⟩ ⟨_, rfl, rfl⟩ (Nat.le_of_ble_eq_true rfl) eX6_seeNumber_1 (fun z1 e2 => ?_)
  subst e2
  refine q_blk (lv2 := [(0, vr t), (1, vi lo), (2, vi hi)]) (st2 := [vi 2, vi (kd he)]) kX6_seeNumber_4 rfl ?_
  refine AQ.ic_eq (tgt := 15) eX6_seeNumber_5 (by decide) (by first | assumption | exact ⟨by omega, by omega⟩) ⟨by decide, by decide⟩ (fun br3 => ?_) (fun br3 => ?_)
  · skip
    refine q_blk (lv2 := [(0, vr t), (1, vi lo), (2, vi hi)]) (st2 := [vr t, vr t]) kX6_seeNumber_15 rfl ?_
    refine q_Vi (av := []) (st := [vr t]) (c_X6_valueHere ⟨_, c0, c1, c2, c3, c4⟩ (by omega) (by omega)) lk_RX6_148 (by decide) rfl rfl ⟨_, _, _, c0⟩ ⟨_, rfl, rfl⟩ (Nat.le_of_ble_eq_true rfl) eX6_seeNumber_17 (fun z4 e5 => ?_)
    subst e5
    refine q_pi eX6_seeNumber_20 fl_RX6_31 (fun q hq => by cases hq; exact Or.inl rfl) (Or.inl rfl) c0 (Nat.le_of_ble_eq_true rfl) (l2 := [0, 0, 0, 0, 0, 0, 0, tc, he, (vl he), px, cl, hs, er, ea]) rfl (fun h6 e7 => ?_)
    have k8 := am_at e7
    have k9 := (am_ne e7 (t + 1) (by omega)).trans c1
    have k10 := (am_ne e7 (t + 2) (by omega)).trans c2
    have k11 := (am_ne e7 (t + 3) (by omega)).trans c3
    have k12 := (am_ne e7 (t + 4) (by omega)).trans c4
    refine q_blk (lv2 := [(0, vr t), (1, vi lo), (2, vi hi)]) (st2 := [vr t]) kX6_seeNumber_23 rfl ?_
    refine q_gi eX6_seeNumber_24 fl_RX6_31 (Or.inl rfl) k8 (z := (vl he)) rfl ?_
    refine q_blk (lv2 := [(0, vr t), (1, vi lo), (2, vi hi)]) (st2 := [vi lo, vi (vl he)]) kX6_seeNumber_27 rfl ?_
    refine AQ.ic_lt (tgt := 39) eX6_seeNumber_28 (by decide) (by first | assumption | exact ⟨by omega, by omega⟩) (by first | assumption | exact ⟨by omega, by omega⟩) (fun br13 => ?_) (fun br13 => ?_)
    · skip
      refine q_blk (lv2 := [(0, vr t), (1, vi lo), (2, vi hi)]) (st2 := [vi (-3), vr t]) kX6_seeNumber_39 rfl ?_
      refine AQ.callVi (av := [vi (-3)]) (st := []) (c_X6_fail (e := (-3)) ⟨_, k8, k9, k10, k11, k12⟩ (by omega) (by omega)) lk_RX6_83 (by decide) rfl rfl ⟨_, _, _, k8⟩ ⟨_, rfl, rfl⟩ (Nat.le_of_ble_eq_true rfl) eX6_seeNumber_42 (fun z14 h16 e15 => ?_)
      obtain ⟨z140, Xh16, Fh16⟩ := e15
      subst z140
      obtain ⟨g17t, g170, g171, g172, g173, g174⟩ := id Xh16
      refine AQ.of (AS.if_eq_t (tgt := 52) eX6_seeNumber_45 (by decide) ⟨by decide, by decide⟩ (by decide)) ?_
      refine q_blk (lv2 := [(0, vr t), (1, vi lo), (2, vi hi)]) (st2 := [vi 0]) kX6_seeNumber_52 rfl ?_
      exact q_rz rfl eX6_seeNumber_53 (by decide) ⟨0, rfl, Or.inr ⟨rfl, _, _, by unfold rN; rw [if_pos (by omega), if_neg (by omega)], ⟨_, _, _, _, _, _, ⟨_, g170, g171, g172, g173, g174⟩, by omega, by omega⟩⟩, ((am_fr.rf.tr (am_fr.st e7 (by omega) (by omega))).tr Fh16)⟩
    · skip
      refine q_blk (lv2 := [(0, vr t), (1, vi lo), (2, vi hi)]) (st2 := [vr t]) kX6_seeNumber_31 rfl ?_
      refine q_gi eX6_seeNumber_32 fl_RX6_31 (Or.inl rfl) k8 (z := (vl he)) rfl ?_
      refine q_blk (lv2 := [(0, vr t), (1, vi lo), (2, vi hi)]) (st2 := [vi hi, vi (vl he)]) kX6_seeNumber_35 rfl ?_
      refine AQ.ic_le (tgt := 48) eX6_seeNumber_36 (by decide) (by first | assumption | exact ⟨by omega, by omega⟩) (by first | assumption | exact ⟨by omega, by omega⟩) (fun br18 => ?_) (fun br18 => ?_)
      · skip
        refine q_blk (lv2 := [(0, vr t), (1, vi lo), (2, vi hi)]) (st2 := [vi 1]) kX6_seeNumber_48 rfl ?_
        refine q_goto (tgt := 53) eX6_seeNumber_49 (by decide) ?_
        exact q_rz rfl eX6_seeNumber_53 (by decide) ⟨1, rfl, Or.inl ⟨rfl, by unfold rN; rw [if_pos (by omega), if_pos (by omega)], ⟨_, k8, k9, k10, k11, k12⟩⟩, (am_fr.rf.tr (am_fr.st e7 (by omega) (by omega)))⟩
      · skip
        refine q_blk (lv2 := [(0, vr t), (1, vi lo), (2, vi hi)]) (st2 := [vi (-3), vr t]) kX6_seeNumber_39 rfl ?_
        refine AQ.callVi (av := [vi (-3)]) (st := []) (c_X6_fail (e := (-3)) ⟨_, k8, k9, k10, k11, k12⟩ (by omega) (by omega)) lk_RX6_83 (by decide) rfl rfl ⟨_, _, _, k8⟩ ⟨_, rfl, rfl⟩ (Nat.le_of_ble_eq_true rfl) eX6_seeNumber_42 (fun z19 h21 e20 => ?_)
        obtain ⟨z190, Xh21, Fh21⟩ := e20
        subst z190
        obtain ⟨g22t, g220, g221, g222, g223, g224⟩ := id Xh21
        refine AQ.of (AS.if_eq_t (tgt := 52) eX6_seeNumber_45 (by decide) ⟨by decide, by decide⟩ (by decide)) ?_
        refine q_blk (lv2 := [(0, vr t), (1, vi lo), (2, vi hi)]) (st2 := [vi 0]) kX6_seeNumber_52 rfl ?_
        exact q_rz rfl eX6_seeNumber_53 (by decide) ⟨0, rfl, Or.inr ⟨rfl, _, _, by unfold rN; rw [if_pos (by omega), if_neg (by omega)], ⟨_, _, _, _, _, _, ⟨_, g220, g221, g222, g223, g224⟩, by omega, by omega⟩⟩, ((am_fr.rf.tr (am_fr.st e7 (by omega) (by omega))).tr Fh21)⟩
  · skip
    refine q_blk (lv2 := [(0, vr t), (1, vi lo), (2, vi hi)]) (st2 := [vi (-2), vr t]) kX6_seeNumber_8 rfl ?_
    refine AQ.callVi (av := [vi (-2)]) (st := []) (c_X6_fail (e := (-2)) ⟨_, c0, c1, c2, c3, c4⟩ (by omega) (by omega)) lk_RX6_83 (by decide) rfl rfl ⟨_, _, _, c0⟩ ⟨_, rfl, rfl⟩ (Nat.le_of_ble_eq_true rfl) eX6_seeNumber_11 (fun z23 h25 e24 => ?_)
    obtain ⟨z230, Xh25, Fh25⟩ := e24
    subst z230
    obtain ⟨g26t, g260, g261, g262, g263, g264⟩ := id Xh25
    exact q_rz rfl eX6_seeNumber_14 (by decide) ⟨0, rfl, Or.inr ⟨rfl, _, _, by unfold rN; rw [if_neg (by omega)], ⟨_, _, _, _, _, _, ⟨_, g260, g261, g262, g263, g264⟩, by omega, by omega⟩⟩, (am_fr.rf.tr Fh25)⟩

set_option maxHeartbeats 1000000 in
theorem c_X6_takeNumber {w : am_w} {h : AH} {t u b j : Nat} {kd st vl : Int → Int} {he nu px cl hs er ea : Int} {cd : Int → Int} (hS : SU h t u b j kd st vl he nu px cl hs er ea cd) (he0 : 0 ≤ he) (he1 : he < 801) (kr : ∀ i, 0 ≤ i → i < 801 → -5 ≤ kd i ∧ kd i ≤ 100) (vq : ∀ i, 0 ≤ i → i < 801 → 0 ≤ vl i ∧ vl i ≤ 10000) (cl0 : 0 ≤ cl) (cl1 : cl ≤ 800) {lo hi : Int} (lo0 : 0 ≤ lo) (hi1 : hi ≤ 10000) (lo1 : lo ≤ 10000) (hi0 : 0 ≤ hi)  : AE w m_X6_takeNumber 3 [vr t, vi lo, vi hi] h (am_int (fun z h1 => ((z = 1 ∧ rN kd st vl lo hi he = .inr (vl he) ∧ SU h1 t u b j kd st vl (he + 1) (vl he) px cl hs er ea cd) ∨ (z = 0 ∧ ∃ e a, rN kd st vl lo hi he = .inl (e, a) ∧ SF h1 t u b j kd st vl e a)) ∧ am_fr h h1 t (t + 5))) := by
  refine AE.of wf_X6_takeNumber (Nat.le_of_ble_eq_true rfl) (am_ok_z (fun z h1 q => by rcases q.1 with q | q; exact Or.inr q.1; exact Or.inl q.1)) ?_
  obtain ⟨tc, c0, c1, c2, c3, c4⟩ := id hS
  have kr1 := kr he he0 he1
  have vr1 := vq he he0 he1
  refine q_blk (lv2 := [(0, vr t), (1, vi lo), (2, vi hi)]) (st2 := [vi hi, vi lo, vr t]) kX6_takeNumber_0 rfl ?_
  refine AQ.callVi (av := [vi lo, vi hi]) (st := []) (c_X6_seeNumber ⟨_, c0, c1, c2, c3, c4⟩ (by omega) (by omega) kr vq (by omega) (by omega) (lo := lo) (hi := hi) (by omega) (by omega) (by omega) (by omega)) lk_RX6_151 (by decide) rfl rfl ⟨_, _, _, c0⟩ ⟨_, rfl, rfl⟩ (Nat.le_of_ble_eq_true rfl) eX6_takeNumber_3 (fun z1 h3 e2 => ?_)
  rcases e2 with ⟨⟨rfl, qh3, Xh3⟩ | ⟨rfl, eh3, ah3, qh3, Xh3⟩, Fh3⟩
  · skip
    obtain ⟨g4t, g40, g41, g42, g43, g44⟩ := id Xh3
    have rh3 := rN_r qh3
    refine q_blk (lv2 := [(0, vr t), (1, vi lo), (2, vi hi), (3, vi 1)]) (st2 := [vi 1]) kX6_takeNumber_6 rfl ?_
    refine AQ.of (AS.if_eq_f eX6_takeNumber_8 ⟨by decide, by decide⟩ (by decide) (by decide)) ?_
    refine q_blk (lv2 := [(0, vr t), (1, vi lo), (2, vi hi), (3, vi 1)]) (st2 := [vr t, vr t]) kX6_takeNumber_11 rfl ?_
    refine q_gi eX6_takeNumber_13 fl_RX6_28 (Or.inl rfl) g40 (z := he) rfl ?_
    refine q_blk (lv2 := [(0, vr t), (1, vi lo), (2, vi hi), (3, vi 1)]) (st2 := [vi (he + 1), vr t]) kX6_takeNumber_16 rfl ?_
    refine q_pi eX6_takeNumber_18 fl_RX6_28 (fun q hq => by cases hq; exact Or.inl rfl) (Or.inl rfl) g40 (Nat.le_of_ble_eq_true rfl) (l2 := [0, 0, 0, 0, 0, 0, 0, g4t, (he + 1), (vl he), px, cl, hs, er, ea]) rfl (fun h5 e6 => ?_)
    have k7 := am_at e6
    have k8 := (am_ne e6 (t + 1) (by omega)).trans g41
    have k9 := (am_ne e6 (t + 2) (by omega)).trans g42
    have k10 := (am_ne e6 (t + 3) (by omega)).trans g43
    have k11 := (am_ne e6 (t + 4) (by omega)).trans g44
    refine q_blk (lv2 := [(0, vr t), (1, vi lo), (2, vi hi), (3, vi 1)]) (st2 := [vi 1]) kX6_takeNumber_21 rfl ?_
    exact q_rz rfl eX6_takeNumber_22 (by decide) ⟨1, rfl, Or.inl ⟨rfl, qh3, ⟨_, k7, k8, k9, k10, k11⟩⟩, ((am_fr.rf.tr Fh3).tr (am_fr.st e6 (by omega) (by omega)))⟩
  · skip
    refine q_blk (lv2 := [(0, vr t), (1, vi lo), (2, vi hi), (3, vi 0)]) (st2 := [vi 0]) kX6_takeNumber_6 rfl ?_
    refine AQ.of (AS.if_eq_t (tgt := 21) eX6_takeNumber_8 (by decide) ⟨by decide, by decide⟩ (by decide)) ?_
    refine q_blk (lv2 := [(0, vr t), (1, vi lo), (2, vi hi), (3, vi 0)]) (st2 := [vi 0]) kX6_takeNumber_21 rfl ?_
    exact q_rz rfl eX6_takeNumber_22 (by decide) ⟨0, rfl, Or.inr ⟨rfl, _, _, qh3, Xh3⟩, (am_fr.rf.tr Fh3)⟩
