/-! CornerClaims$Setup: its cells; tokens, one by one. -/
/-- the reader: where it is, the latest number, x of a point, how much code, a score seen, the error and its place; the code -/
def SU (h : AH) (t u b j : Nat) (kd st vl : Int → Int) (he nu px cl hs er ea : Int) (cd : Int → Int) : Prop := ∃ tc, h.1 t = some (5, 15, am_L [0, 0, 0, 0, 0, 0, 0, tc, he, nu, px, cl, hs, er, ea], am_G [some u, some b, some j, some (t + 3), some (t + 4), some (t + 5), some (t + 6), none, none, none, none, none, none, none, none]) ∧ h.1 (t + 3) = some (100, 801, kd, am_N) ∧ h.1 (t + 4) = some (100, 801, st, am_N) ∧ h.1 (t + 5) = some (100, 801, vl, am_N) ∧ h.1 (t + 6) = some (100, 800, cd, am_N) ∧ j = t + 1 ∧ h.1 j = some (2, 2, am_L [], am_G [some b, some (t + 2)]) ∧ LJ h (t + 2)
theorem SU.ob {h : AH} {t u b j : Nat} {kd st vl : Int → Int} {he nu px cl hs er ea : Int} {cd : Int → Int} (hS : SU h t u b j kd st vl he nu px cl hs er ea cd) : am_ob h t 5 := by
  obtain ⟨tc, c, -⟩ := hS
  exact ⟨_, _, _, c⟩
theorem SU.kept {h h1 : AH} {t u b j : Nat} {kd st vl : Int → Int} {he nu px cl hs er ea : Int} {cd : Int → Int} {lo hi : Nat} (hS : SU h t u b j kd st vl he nu px cl hs er ea cd) (f : am_fr h h1 lo hi) (hd : t + 7 ≤ lo ∨ hi ≤ t) : SU h1 t u b j kd st vl he nu px cl hs er ea cd := by
  obtain ⟨tc, c0, c1, c2, c3, c4, cj, c5, cL⟩ := hS
  exact ⟨tc, (f.2 _ (by omega)).trans c0, (f.2 _ (by omega)).trans c1, (f.2 _ (by omega)).trans c2, (f.2 _ (by omega)).trans c3, (f.2 _ (by omega)).trans c4, cj, (f.2 _ (by omega)).trans c5, cL.kept f (by omega)⟩
/-- a number was asked for and is not there, or not within -/
def gm_nu (kd vl : Int → Int) (lo hi he e : Int) : Prop := (kd he ≠ 2 ∧ e = -2) ∨ (kd he = 2 ∧ ¬ (lo ≤ vl he ∧ vl he ≤ hi) ∧ e = -3)

set_option maxHeartbeats 1000000 in
theorem c_X6_kindHere {w : am_w} {h : AH} {t u b j : Nat} {kd st vl : Int → Int} {he nu px cl hs er ea : Int} {cd : Int → Int} (hS : SU h t u b j kd st vl he nu px cl hs er ea cd) (he0 : 0 ≤ he) (he1 : he < 801)  : AE w m_X6_kindHere 1 [vr t] h (am_intp h (fun z => z = kd he)) := by
  refine AE.of wf_X6_kindHere (Nat.le_of_ble_eq_true rfl) (am_ok_ip) ?_
  obtain ⟨tc, c0, c1, c2, c3, c4, cj, c5, cL⟩ := id hS
  refine q_blk (lv2 := [(0, vr t)]) (st2 := [vr t]) kX6_kindHere_0 rfl ?_
  refine q_gi eX6_kindHere_1 fl_RX6_28 (Or.inl rfl) c0 (z := he) rfl ?_
  refine AQ.of (AS.if_lt_f eX6_kindHere_4 (by first | assumption | exact ⟨by omega, by omega⟩) (by omega) (by decide)) ?_
  refine q_blk (lv2 := [(0, vr t)]) (st2 := [vr t]) kX6_kindHere_7 rfl ?_
  refine q_gi eX6_kindHere_8 fl_RX6_28 (Or.inl rfl) c0 (z := he) rfl ?_
  refine q_blk (lv2 := [(0, vr t)]) (st2 := [vr t, vi he]) kX6_kindHere_11 rfl ?_
  refine q_gr eX6_kindHere_12 fl_RX6_9 (Or.inr ⟨_, rfl⟩) c0 rfl ?_
  refine q_al eX6_kindHere_15 c1 (by decide) ?_
  refine AQ.of (AS.ic_ge_f eX6_kindHere_16 (by first | assumption | exact ⟨by omega, by omega⟩) ⟨by decide, by decide⟩ (by omega) (by decide)) ?_
  refine q_blk (lv2 := [(0, vr t)]) (st2 := [vr t]) kX6_kindHere_19 rfl ?_
  refine q_gr eX6_kindHere_20 fl_RX6_9 (Or.inr ⟨_, rfl⟩) c0 rfl ?_
  refine q_blk (lv2 := [(0, vr t)]) (st2 := [vr t, vr (t + 3)]) kX6_kindHere_23 rfl ?_
  refine q_gi eX6_kindHere_24 fl_RX6_28 (Or.inl rfl) c0 (z := he) rfl ?_
  refine q_ia eX6_kindHere_27 c1 (by decide) (by omega) (by omega) (z := (kd he)) rfl ?_
  refine q_goto (tgt := 32) eX6_kindHere_28 (by decide) ?_
  exact q_ri rfl eX6_kindHere_32 ⟨(kd he), rfl, rfl, rfl⟩

set_option maxHeartbeats 1000000 in
theorem c_X6_valueHere {w : am_w} {h : AH} {t u b j : Nat} {kd st vl : Int → Int} {he nu px cl hs er ea : Int} {cd : Int → Int} (hS : SU h t u b j kd st vl he nu px cl hs er ea cd) (he0 : 0 ≤ he) (he1 : he < 801)  : AE w m_X6_valueHere 1 [vr t] h (am_intp h (fun z => z = vl he)) := by
  refine AE.of wf_X6_valueHere (Nat.le_of_ble_eq_true rfl) (am_ok_ip) ?_
  obtain ⟨tc, c0, c1, c2, c3, c4, cj, c5, cL⟩ := id hS
  refine q_blk (lv2 := [(0, vr t)]) (st2 := [vr t]) kX6_valueHere_0 rfl ?_
  refine q_gi eX6_valueHere_1 fl_RX6_28 (Or.inl rfl) c0 (z := he) rfl ?_
  refine AQ.of (AS.if_lt_f eX6_valueHere_4 (by first | assumption | exact ⟨by omega, by omega⟩) (by omega) (by decide)) ?_
  refine q_blk (lv2 := [(0, vr t)]) (st2 := [vr t]) kX6_valueHere_7 rfl ?_
  refine q_gi eX6_valueHere_8 fl_RX6_28 (Or.inl rfl) c0 (z := he) rfl ?_
  refine q_blk (lv2 := [(0, vr t)]) (st2 := [vr t, vi he]) kX6_valueHere_11 rfl ?_
  refine q_gr eX6_valueHere_12 fl_RX6_18 (Or.inr ⟨_, rfl⟩) c0 rfl ?_
  refine q_al eX6_valueHere_15 c3 (by decide) ?_
  refine AQ.of (AS.ic_ge_f eX6_valueHere_16 (by first | assumption | exact ⟨by omega, by omega⟩) ⟨by decide, by decide⟩ (by omega) (by decide)) ?_
  refine q_blk (lv2 := [(0, vr t)]) (st2 := [vr t]) kX6_valueHere_19 rfl ?_
  refine q_gr eX6_valueHere_20 fl_RX6_18 (Or.inr ⟨_, rfl⟩) c0 rfl ?_
  refine q_blk (lv2 := [(0, vr t)]) (st2 := [vr t, vr (t + 5)]) kX6_valueHere_23 rfl ?_
  refine q_gi eX6_valueHere_24 fl_RX6_28 (Or.inl rfl) c0 (z := he) rfl ?_
  refine q_ia eX6_valueHere_27 c3 (by decide) (by omega) (by omega) (z := (vl he)) rfl ?_
  refine q_goto (tgt := 32) eX6_valueHere_28 (by decide) ?_
  exact q_ri rfl eX6_valueHere_32 ⟨(vl he), rfl, rfl, rfl⟩

set_option maxHeartbeats 1000000 in
theorem c_X6_fail {w : am_w} {h : AH} {t u b j : Nat} {kd st vl : Int → Int} {he nu px cl hs er ea : Int} {cd : Int → Int} (hS : SU h t u b j kd st vl he nu px cl hs er ea cd) (he0 : 0 ≤ he) (he1 : he < 801) {e : Int}  : AE w m_X6_fail 1 [vr t, vi e] h (am_int (fun z h1 => z = 0 ∧ SU h1 t u b j kd st vl he nu px cl hs e (st he) cd ∧ am_fr h h1 t (t + 7))) := by
  refine AE.of wf_X6_fail (Nat.le_of_ble_eq_true rfl) (am_ok_z (fun z h1 q => Or.inl q.1)) ?_
  obtain ⟨tc, c0, c1, c2, c3, c4, cj, c5, cL⟩ := id hS
  refine q_blk (lv2 := [(0, vr t), (1, vi e)]) (st2 := [vi e, vr t]) kX6_fail_0 rfl ?_
  refine q_pi eX6_fail_2 fl_RX6_44 (fun q hq => by cases hq; exact Or.inl rfl) (Or.inl rfl) c0 (Nat.le_of_ble_eq_true rfl) (l2 := [0, 0, 0, 0, 0, 0, 0, tc, he, nu, px, cl, hs, e, ea]) rfl (fun h1 e2 => ?_)
  have k3 := am_at e2
  have k4 := (am_ne e2 (t + 3) (by omega)).trans c1
  have k5 := (am_ne e2 (t + 4) (by omega)).trans c2
  have k6 := (am_ne e2 (t + 5) (by omega)).trans c3
  have k7 := (am_ne e2 (t + 6) (by omega)).trans c4
  have k8 := (am_ne e2 j (by omega)).trans c5
  have k9 := cL.kept (lo := t) (hi := t + 1) (am_fr.st e2 (by omega) (by omega)) (by omega)
  refine q_blk (lv2 := [(0, vr t), (1, vi e)]) (st2 := [vr t, vr t]) kX6_fail_5 rfl ?_
  refine q_gi eX6_fail_7 fl_RX6_28 (Or.inl rfl) k3 (z := he) rfl ?_
  refine AQ.of (AS.if_lt_f eX6_fail_10 (by first | assumption | exact ⟨by omega, by omega⟩) (by omega) (by decide)) ?_
  refine q_blk (lv2 := [(0, vr t), (1, vi e)]) (st2 := [vr t, vr t]) kX6_fail_13 rfl ?_
  refine q_gi eX6_fail_14 fl_RX6_28 (Or.inl rfl) k3 (z := he) rfl ?_
  refine q_blk (lv2 := [(0, vr t), (1, vi e)]) (st2 := [vr t, vi he, vr t]) kX6_fail_17 rfl ?_
  refine q_gr eX6_fail_18 fl_RX6_15 (Or.inr ⟨_, rfl⟩) k3 rfl ?_
  refine q_al eX6_fail_21 k5 (by decide) ?_
  refine AQ.of (AS.ic_ge_f eX6_fail_22 (by first | assumption | exact ⟨by omega, by omega⟩) ⟨by decide, by decide⟩ (by omega) (by decide)) ?_
  refine q_blk (lv2 := [(0, vr t), (1, vi e)]) (st2 := [vr t, vr t]) kX6_fail_25 rfl ?_
  refine q_gr eX6_fail_26 fl_RX6_15 (Or.inr ⟨_, rfl⟩) k3 rfl ?_
  refine q_blk (lv2 := [(0, vr t), (1, vi e)]) (st2 := [vr t, vr (t + 4), vr t]) kX6_fail_29 rfl ?_
  refine q_gi eX6_fail_30 fl_RX6_28 (Or.inl rfl) k3 (z := he) rfl ?_
  refine q_ia eX6_fail_33 k5 (by decide) (by omega) (by omega) (z := (st he)) rfl ?_
  refine q_goto (tgt := 38) eX6_fail_34 (by decide) ?_
  refine q_pi eX6_fail_38 fl_RX6_47 (fun q hq => by cases hq; exact Or.inl rfl) (Or.inl rfl) k3 (Nat.le_of_ble_eq_true rfl) (l2 := [0, 0, 0, 0, 0, 0, 0, tc, he, nu, px, cl, hs, e, (st he)]) rfl (fun h10 e11 => ?_)
  have k12 := am_at e11
  have k13 := (am_ne e11 (t + 3) (by omega)).trans k4
  have k14 := (am_ne e11 (t + 4) (by omega)).trans k5
  have k15 := (am_ne e11 (t + 5) (by omega)).trans k6
  have k16 := (am_ne e11 (t + 6) (by omega)).trans k7
  have k17 := (am_ne e11 j (by omega)).trans k8
  have k18 := k9.kept (lo := t) (hi := t + 1) (am_fr.st e11 (by omega) (by omega)) (by omega)
  refine q_blk (lv2 := [(0, vr t), (1, vi e)]) (st2 := [vi 0]) kX6_fail_41 rfl ?_
  exact q_rz rfl eX6_fail_42 (by decide) ⟨0, rfl, rfl, ⟨_, k12, k13, k14, k15, k16, cj, k17, k18⟩, (am_fr.rf.tr ((am_fr.st e2 (by omega) (by omega)).tr (am_fr.st e11 (by omega) (by omega))))⟩

set_option maxHeartbeats 1000000 in
theorem c_X6_take {w : am_w} {h : AH} {t u b j : Nat} {kd st vl : Int → Int} {he nu px cl hs er ea : Int} {cd : Int → Int} (hS : SU h t u b j kd st vl he nu px cl hs er ea cd) (he0 : 0 ≤ he) (he1 : he < 801) (kr : ∀ i, 0 ≤ i → i < 801 → -5 ≤ kd i ∧ kd i ≤ 100) (vq : ∀ i, 0 ≤ i → i < 801 → 0 ≤ vl i ∧ vl i ≤ 10000) {k : Int} (k0 : -10 ≤ k) (k1 : k ≤ 100)  : AE w m_X6_take 2 [vr t, vi k] h (am_int (fun z h1 => ((z = 1 ∧ kd he = k ∧ SU h1 t u b j kd st vl (he + 1) nu px cl hs er ea cd) ∨ (z = 0 ∧ kd he ≠ k ∧ SU h1 t u b j kd st vl he nu px cl hs (-2) (st he) cd)) ∧ am_fr h h1 t (t + 7))) := by
  refine AE.of wf_X6_take (Nat.le_of_ble_eq_true rfl) (am_ok_z (fun z h1 q => by rcases q.1 with q | q; exact Or.inr q.1; exact Or.inl q.1)) ?_
  obtain ⟨tc, c0, c1, c2, c3, c4, cj, c5, cL⟩ := id hS
  have kr1 := kr he he0 he1
  refine q_blk (lv2 := [(0, vr t), (1, vi k)]) (st2 := [vr t]) kX6_take_0 rfl ?_
  refine q_Vi (av := []) (st := []) (c_X6_kindHere ⟨_, c0, c1, c2, c3, c4, cj, c5, cL⟩ (by omega) (by omega)) lk_RX6_70 (by decide) rfl rfl ⟨_, _, _, c0⟩ ⟨_, rfl, rfl⟩ (Nat.le_of_ble_eq_true rfl) eX6_take_1 (fun z1 e2 => ?_)
  subst e2
  refine q_blk (lv2 := [(0, vr t), (1, vi k)]) (st2 := [vi k, vi (kd he)]) kX6_take_4 rfl ?_
  refine AQ.ic_eq (tgt := 15) eX6_take_5 (by decide) (by first | assumption | exact ⟨by omega, by omega⟩) (by first | assumption | exact ⟨by omega, by omega⟩) (fun br3 => ?_) (fun br3 => ?_)
  · skip
    refine q_blk (lv2 := [(0, vr t), (1, vi k)]) (st2 := [vr t, vr t]) kX6_take_15 rfl ?_
    refine q_gi eX6_take_17 fl_RX6_28 (Or.inl rfl) c0 (z := he) rfl ?_
    refine q_blk (lv2 := [(0, vr t), (1, vi k)]) (st2 := [vi (he + 1), vr t]) kX6_take_20 rfl ?_
    refine q_pi eX6_take_22 fl_RX6_28 (fun q hq => by cases hq; exact Or.inl rfl) (Or.inl rfl) c0 (Nat.le_of_ble_eq_true rfl) (l2 := [0, 0, 0, 0, 0, 0, 0, tc, (he + 1), nu, px, cl, hs, er, ea]) rfl (fun h4 e5 => ?_)
    have k6 := am_at e5
    have k7 := (am_ne e5 (t + 3) (by omega)).trans c1
    have k8 := (am_ne e5 (t + 4) (by omega)).trans c2
    have k9 := (am_ne e5 (t + 5) (by omega)).trans c3
    have k10 := (am_ne e5 (t + 6) (by omega)).trans c4
    have k11 := (am_ne e5 j (by omega)).trans c5
    have k12 := cL.kept (lo := t) (hi := t + 1) (am_fr.st e5 (by omega) (by omega)) (by omega)
    refine q_blk (lv2 := [(0, vr t), (1, vi k)]) (st2 := [vi 1]) kX6_take_25 rfl ?_
    exact q_rz rfl eX6_take_26 (by decide) ⟨1, rfl, Or.inl ⟨rfl, by omega, ⟨_, k6, k7, k8, k9, k10, cj, k11, k12⟩⟩, (am_fr.rf.tr (am_fr.st e5 (by omega) (by omega)))⟩
  · skip
    refine q_blk (lv2 := [(0, vr t), (1, vi k)]) (st2 := [vi (-2), vr t]) kX6_take_8 rfl ?_
    refine AQ.callVi (av := [vi (-2)]) (st := []) (c_X6_fail (e := (-2)) ⟨_, c0, c1, c2, c3, c4, cj, c5, cL⟩ (by omega) (by omega)) lk_RX6_83 (by decide) rfl rfl ⟨_, _, _, c0⟩ ⟨_, rfl, rfl⟩ (Nat.le_of_ble_eq_true rfl) eX6_take_11 (fun z13 h15 e14 => ?_)
    obtain ⟨z130, Xh15, Fh15⟩ := e14
    subst z130
    obtain ⟨g16t, g160, g161, g162, g163, g164, g16j, g165, g16L⟩ := id Xh15
    exact q_rz rfl eX6_take_14 (by decide) ⟨0, rfl, Or.inr ⟨rfl, by omega, ⟨_, g160, g161, g162, g163, g164, cj, g165, g16L⟩⟩, (am_fr.rf.tr Fh15)⟩

/-- what reading says: an error and its place, or what was read -/
def rN (kd st vl : Int → Int) (lo hi he : Int) : (Int × Int) ⊕ Int := if kd he = 2 then (if lo ≤ vl he ∧ vl he ≤ hi then .inr (vl he) else .inl (-3, st he)) else .inl (-2, st he)
def rT (kd st : Int → Int) (k he : Int) : (Int × Int) ⊕ Unit := if kd he = k then .inr () else .inl (-2, st he)
def rB {A B : Type} (a : (Int × Int) ⊕ A) (f : A → (Int × Int) ⊕ B) : (Int × Int) ⊕ B := match a with | .inl e => .inl e | .inr x => f x
theorem rB_l {A B : Type} {a : (Int × Int) ⊕ A} {e : Int × Int} (h : a = .inl e) (f : A → (Int × Int) ⊕ B) : rB a f = .inl e := by rw [h]; rfl
theorem rB_r {A B : Type} {a : (Int × Int) ⊕ A} {x : A} (h : a = .inr x) (f : A → (Int × Int) ⊕ B) : rB a f = f x := by rw [h]; rfl
def rP (kd st vl : Int → Int) (w hh he : Int) : (Int × Int) ⊕ (Int × Int) := rB (rN kd st vl 0 w he) fun x => rB (rN kd st vl 0 hh (he + 1)) fun y => .inr (x, y)
def rF (kd st vl : Int → Int) : (Int × Int) ⊕ (Int × Int) := rB (rT kd st 3 0) fun _ => rB (rN kd st vl 2 30 1) fun x => rB (rN kd st vl 2 30 2) fun y => rB (rT kd st 59 3) fun _ => .inr (x, y)
theorem rN_r {kd st vl : Int → Int} {lo hi he v : Int} (h : rN kd st vl lo hi he = .inr v) : kd he = 2 ∧ v = vl he ∧ lo ≤ v ∧ v ≤ hi := by
  unfold rN at h
  split at h
  · split at h
    · cases h; exact ⟨‹_›, rfl, ‹_›⟩
    · cases h
  · cases h
/-- the reader after an error -/
def SF (h : AH) (t u b j : Nat) (kd st vl : Int → Int) (e a : Int) : Prop := ∃ he nu px cl hs cd, SU h t u b j kd st vl he nu px cl hs e a cd ∧ 0 ≤ cl ∧ cl ≤ 800
theorem SF.kept {h h1 : AH} {t u b j : Nat} {kd st vl : Int → Int} {e a : Int} {lo hi : Nat} (hS : SF h t u b j kd st vl e a) (f : am_fr h h1 lo hi) (hd : t + 7 ≤ lo ∨ hi ≤ t) : SF h1 t u b j kd st vl e a := by
  obtain ⟨he, nu, px, cl, hs, cd, c, d⟩ := hS
  exact ⟨he, nu, px, cl, hs, cd, c.kept f hd, d⟩

set_option maxHeartbeats 1000000 in
theorem c_X6_seeNumber {w : am_w} {h : AH} {t u b j : Nat} {kd st vl : Int → Int} {he nu px cl hs er ea : Int} {cd : Int → Int} (hS : SU h t u b j kd st vl he nu px cl hs er ea cd) (he0 : 0 ≤ he) (he1 : he < 801) (kr : ∀ i, 0 ≤ i → i < 801 → -5 ≤ kd i ∧ kd i ≤ 100) (vq : ∀ i, 0 ≤ i → i < 801 → 0 ≤ vl i ∧ vl i ≤ 10000) (cl0 : 0 ≤ cl) (cl1 : cl ≤ 800) {lo hi : Int} (lo0 : 0 ≤ lo) (hi1 : hi ≤ 10000) (lo1 : lo ≤ 10000) (hi0 : 0 ≤ hi)  : AE w m_X6_seeNumber 2 [vr t, vi lo, vi hi] h (am_int (fun z h1 => ((z = 1 ∧ rN kd st vl lo hi he = .inr (vl he) ∧ SU h1 t u b j kd st vl he (vl he) px cl hs er ea cd) ∨ (z = 0 ∧ ∃ e a, rN kd st vl lo hi he = .inl (e, a) ∧ SF h1 t u b j kd st vl e a)) ∧ am_fr h h1 t (t + 7))) := by
  refine AE.of wf_X6_seeNumber (Nat.le_of_ble_eq_true rfl) (am_ok_z (fun z h1 q => by rcases q.1 with q | q; exact Or.inr q.1; exact Or.inl q.1)) ?_
  obtain ⟨tc, c0, c1, c2, c3, c4, cj, c5, cL⟩ := id hS
  have kr1 := kr he he0 he1
  have vr1 := vq he he0 he1
  refine q_blk (lv2 := [(0, vr t), (1, vi lo), (2, vi hi)]) (st2 := [vr t]) kX6_seeNumber_0 rfl ?_
  refine q_Vi (av := []) (st := []) (c_X6_kindHere ⟨_, c0, c1, c2, c3, c4, cj, c5, cL⟩ (by omega) (by omega)) lk_RX6_70 (by decide) rfl rfl ⟨_, _, _, c0⟩ ⟨_, rfl, rfl⟩ (Nat.le_of_ble_eq_true rfl) eX6_seeNumber_1 (fun z1 e2 => ?_)
  subst e2
  refine q_blk (lv2 := [(0, vr t), (1, vi lo), (2, vi hi)]) (st2 := [vi 2, vi (kd he)]) kX6_seeNumber_4 rfl ?_
  refine AQ.ic_eq (tgt := 15) eX6_seeNumber_5 (by decide) (by first | assumption | exact ⟨by omega, by omega⟩) ⟨by decide, by decide⟩ (fun br3 => ?_) (fun br3 => ?_)
  · skip
    refine q_blk (lv2 := [(0, vr t), (1, vi lo), (2, vi hi)]) (st2 := [vr t, vr t]) kX6_seeNumber_15 rfl ?_
    refine q_Vi (av := []) (st := [vr t]) (c_X6_valueHere ⟨_, c0, c1, c2, c3, c4, cj, c5, cL⟩ (by omega) (by omega)) lk_RX6_148 (by decide) rfl rfl ⟨_, _, _, c0⟩ ⟨_, rfl, rfl⟩ (Nat.le_of_ble_eq_true rfl) eX6_seeNumber_17 (fun z4 e5 => ?_)
    subst e5
    refine q_pi eX6_seeNumber_20 fl_RX6_31 (fun q hq => by cases hq; exact Or.inl rfl) (Or.inl rfl) c0 (Nat.le_of_ble_eq_true rfl) (l2 := [0, 0, 0, 0, 0, 0, 0, tc, he, (vl he), px, cl, hs, er, ea]) rfl (fun h6 e7 => ?_)
    have k8 := am_at e7
    have k9 := (am_ne e7 (t + 3) (by omega)).trans c1
    have k10 := (am_ne e7 (t + 4) (by omega)).trans c2
    have k11 := (am_ne e7 (t + 5) (by omega)).trans c3
    have k12 := (am_ne e7 (t + 6) (by omega)).trans c4
    have k13 := (am_ne e7 j (by omega)).trans c5
    have k14 := cL.kept (lo := t) (hi := t + 1) (am_fr.st e7 (by omega) (by omega)) (by omega)
    refine q_blk (lv2 := [(0, vr t), (1, vi lo), (2, vi hi)]) (st2 := [vr t]) kX6_seeNumber_23 rfl ?_
    refine q_gi eX6_seeNumber_24 fl_RX6_31 (Or.inl rfl) k8 (z := (vl he)) rfl ?_
    refine q_blk (lv2 := [(0, vr t), (1, vi lo), (2, vi hi)]) (st2 := [vi lo, vi (vl he)]) kX6_seeNumber_27 rfl ?_
    refine AQ.ic_lt (tgt := 39) eX6_seeNumber_28 (by decide) (by first | assumption | exact ⟨by omega, by omega⟩) (by first | assumption | exact ⟨by omega, by omega⟩) (fun br15 => ?_) (fun br15 => ?_)
    · skip
      refine q_blk (lv2 := [(0, vr t), (1, vi lo), (2, vi hi)]) (st2 := [vi (-3), vr t]) kX6_seeNumber_39 rfl ?_
      refine AQ.callVi (av := [vi (-3)]) (st := []) (c_X6_fail (e := (-3)) ⟨_, k8, k9, k10, k11, k12, cj, k13, k14⟩ (by omega) (by omega)) lk_RX6_83 (by decide) rfl rfl ⟨_, _, _, k8⟩ ⟨_, rfl, rfl⟩ (Nat.le_of_ble_eq_true rfl) eX6_seeNumber_42 (fun z16 h18 e17 => ?_)
      obtain ⟨z160, Xh18, Fh18⟩ := e17
      subst z160
      obtain ⟨g19t, g190, g191, g192, g193, g194, g19j, g195, g19L⟩ := id Xh18
      refine AQ.of (AS.if_eq_t (tgt := 52) eX6_seeNumber_45 (by decide) ⟨by decide, by decide⟩ (by decide)) ?_
      refine q_blk (lv2 := [(0, vr t), (1, vi lo), (2, vi hi)]) (st2 := [vi 0]) kX6_seeNumber_52 rfl ?_
      exact q_rz rfl eX6_seeNumber_53 (by decide) ⟨0, rfl, Or.inr ⟨rfl, _, _, by unfold rN; rw [if_pos (by omega), if_neg (by omega)], ⟨_, _, _, _, _, _, ⟨_, g190, g191, g192, g193, g194, cj, g195, g19L⟩, by omega, by omega⟩⟩, ((am_fr.rf.tr (am_fr.st e7 (by omega) (by omega))).tr Fh18)⟩
    · skip
      refine q_blk (lv2 := [(0, vr t), (1, vi lo), (2, vi hi)]) (st2 := [vr t]) kX6_seeNumber_31 rfl ?_
      refine q_gi eX6_seeNumber_32 fl_RX6_31 (Or.inl rfl) k8 (z := (vl he)) rfl ?_
      refine q_blk (lv2 := [(0, vr t), (1, vi lo), (2, vi hi)]) (st2 := [vi hi, vi (vl he)]) kX6_seeNumber_35 rfl ?_
      refine AQ.ic_le (tgt := 48) eX6_seeNumber_36 (by decide) (by first | assumption | exact ⟨by omega, by omega⟩) (by first | assumption | exact ⟨by omega, by omega⟩) (fun br20 => ?_) (fun br20 => ?_)
      · skip
        refine q_blk (lv2 := [(0, vr t), (1, vi lo), (2, vi hi)]) (st2 := [vi 1]) kX6_seeNumber_48 rfl ?_
        refine q_goto (tgt := 53) eX6_seeNumber_49 (by decide) ?_
        exact q_rz rfl eX6_seeNumber_53 (by decide) ⟨1, rfl, Or.inl ⟨rfl, by unfold rN; rw [if_pos (by omega), if_pos (by omega)], ⟨_, k8, k9, k10, k11, k12, cj, k13, k14⟩⟩, (am_fr.rf.tr (am_fr.st e7 (by omega) (by omega)))⟩
      · skip
        refine q_blk (lv2 := [(0, vr t), (1, vi lo), (2, vi hi)]) (st2 := [vi (-3), vr t]) kX6_seeNumber_39 rfl ?_
        refine AQ.callVi (av := [vi (-3)]) (st := []) (c_X6_fail (e := (-3)) ⟨_, k8, k9, k10, k11, k12, cj, k13, k14⟩ (by omega) (by omega)) lk_RX6_83 (by decide) rfl rfl ⟨_, _, _, k8⟩ ⟨_, rfl, rfl⟩ (Nat.le_of_ble_eq_true rfl) eX6_seeNumber_42 (fun z21 h23 e22 => ?_)
        obtain ⟨z210, Xh23, Fh23⟩ := e22
        subst z210
        obtain ⟨g24t, g240, g241, g242, g243, g244, g24j, g245, g24L⟩ := id Xh23
        refine AQ.of (AS.if_eq_t (tgt := 52) eX6_seeNumber_45 (by decide) ⟨by decide, by decide⟩ (by decide)) ?_
        refine q_blk (lv2 := [(0, vr t), (1, vi lo), (2, vi hi)]) (st2 := [vi 0]) kX6_seeNumber_52 rfl ?_
        exact q_rz rfl eX6_seeNumber_53 (by decide) ⟨0, rfl, Or.inr ⟨rfl, _, _, by unfold rN; rw [if_pos (by omega), if_neg (by omega)], ⟨_, _, _, _, _, _, ⟨_, g240, g241, g242, g243, g244, cj, g245, g24L⟩, by omega, by omega⟩⟩, ((am_fr.rf.tr (am_fr.st e7 (by omega) (by omega))).tr Fh23)⟩
  · skip
    refine q_blk (lv2 := [(0, vr t), (1, vi lo), (2, vi hi)]) (st2 := [vi (-2), vr t]) kX6_seeNumber_8 rfl ?_
    refine AQ.callVi (av := [vi (-2)]) (st := []) (c_X6_fail (e := (-2)) ⟨_, c0, c1, c2, c3, c4, cj, c5, cL⟩ (by omega) (by omega)) lk_RX6_83 (by decide) rfl rfl ⟨_, _, _, c0⟩ ⟨_, rfl, rfl⟩ (Nat.le_of_ble_eq_true rfl) eX6_seeNumber_11 (fun z25 h27 e26 => ?_)
    obtain ⟨z250, Xh27, Fh27⟩ := e26
    subst z250
    obtain ⟨g28t, g280, g281, g282, g283, g284, g28j, g285, g28L⟩ := id Xh27
    exact q_rz rfl eX6_seeNumber_14 (by decide) ⟨0, rfl, Or.inr ⟨rfl, _, _, by unfold rN; rw [if_neg (by omega)], ⟨_, _, _, _, _, _, ⟨_, g280, g281, g282, g283, g284, cj, g285, g28L⟩, by omega, by omega⟩⟩, (am_fr.rf.tr Fh27)⟩

set_option maxHeartbeats 1000000 in
theorem c_X6_takeNumber {w : am_w} {h : AH} {t u b j : Nat} {kd st vl : Int → Int} {he nu px cl hs er ea : Int} {cd : Int → Int} (hS : SU h t u b j kd st vl he nu px cl hs er ea cd) (he0 : 0 ≤ he) (he1 : he < 801) (kr : ∀ i, 0 ≤ i → i < 801 → -5 ≤ kd i ∧ kd i ≤ 100) (vq : ∀ i, 0 ≤ i → i < 801 → 0 ≤ vl i ∧ vl i ≤ 10000) (cl0 : 0 ≤ cl) (cl1 : cl ≤ 800) {lo hi : Int} (lo0 : 0 ≤ lo) (hi1 : hi ≤ 10000) (lo1 : lo ≤ 10000) (hi0 : 0 ≤ hi)  : AE w m_X6_takeNumber 3 [vr t, vi lo, vi hi] h (am_int (fun z h1 => ((z = 1 ∧ rN kd st vl lo hi he = .inr (vl he) ∧ SU h1 t u b j kd st vl (he + 1) (vl he) px cl hs er ea cd) ∨ (z = 0 ∧ ∃ e a, rN kd st vl lo hi he = .inl (e, a) ∧ SF h1 t u b j kd st vl e a)) ∧ am_fr h h1 t (t + 7))) := by
  refine AE.of wf_X6_takeNumber (Nat.le_of_ble_eq_true rfl) (am_ok_z (fun z h1 q => by rcases q.1 with q | q; exact Or.inr q.1; exact Or.inl q.1)) ?_
  obtain ⟨tc, c0, c1, c2, c3, c4, cj, c5, cL⟩ := id hS
  have kr1 := kr he he0 he1
  have vr1 := vq he he0 he1
  refine q_blk (lv2 := [(0, vr t), (1, vi lo), (2, vi hi)]) (st2 := [vi hi, vi lo, vr t]) kX6_takeNumber_0 rfl ?_
  refine AQ.callVi (av := [vi lo, vi hi]) (st := []) (c_X6_seeNumber ⟨_, c0, c1, c2, c3, c4, cj, c5, cL⟩ (by omega) (by omega) kr vq (by omega) (by omega) (lo := lo) (hi := hi) (by omega) (by omega) (by omega) (by omega)) lk_RX6_151 (by decide) rfl rfl ⟨_, _, _, c0⟩ ⟨_, rfl, rfl⟩ (Nat.le_of_ble_eq_true rfl) eX6_takeNumber_3 (fun z1 h3 e2 => ?_)
  rcases e2 with ⟨⟨rfl, qh3, Xh3⟩ | ⟨rfl, eh3, ah3, qh3, Xh3⟩, Fh3⟩
  · skip
    obtain ⟨g4t, g40, g41, g42, g43, g44, g4j, g45, g4L⟩ := id Xh3
    have rh3 := rN_r qh3
    refine q_blk (lv2 := [(0, vr t), (1, vi lo), (2, vi hi), (3, vi 1)]) (st2 := [vi 1]) kX6_takeNumber_6 rfl ?_
    refine AQ.of (AS.if_eq_f eX6_takeNumber_8 ⟨by decide, by decide⟩ (by decide) (by decide)) ?_
    refine q_blk (lv2 := [(0, vr t), (1, vi lo), (2, vi hi), (3, vi 1)]) (st2 := [vr t, vr t]) kX6_takeNumber_11 rfl ?_
    refine q_gi eX6_takeNumber_13 fl_RX6_28 (Or.inl rfl) g40 (z := he) rfl ?_
    refine q_blk (lv2 := [(0, vr t), (1, vi lo), (2, vi hi), (3, vi 1)]) (st2 := [vi (he + 1), vr t]) kX6_takeNumber_16 rfl ?_
    refine q_pi eX6_takeNumber_18 fl_RX6_28 (fun q hq => by cases hq; exact Or.inl rfl) (Or.inl rfl) g40 (Nat.le_of_ble_eq_true rfl) (l2 := [0, 0, 0, 0, 0, 0, 0, g4t, (he + 1), (vl he), px, cl, hs, er, ea]) rfl (fun h5 e6 => ?_)
    have k7 := am_at e6
    have k8 := (am_ne e6 (t + 3) (by omega)).trans g41
    have k9 := (am_ne e6 (t + 4) (by omega)).trans g42
    have k10 := (am_ne e6 (t + 5) (by omega)).trans g43
    have k11 := (am_ne e6 (t + 6) (by omega)).trans g44
    have k12 := (am_ne e6 j (by omega)).trans g45
    have k13 := g4L.kept (lo := t) (hi := t + 1) (am_fr.st e6 (by omega) (by omega)) (by omega)
    refine q_blk (lv2 := [(0, vr t), (1, vi lo), (2, vi hi), (3, vi 1)]) (st2 := [vi 1]) kX6_takeNumber_21 rfl ?_
    exact q_rz rfl eX6_takeNumber_22 (by decide) ⟨1, rfl, Or.inl ⟨rfl, qh3, ⟨_, k7, k8, k9, k10, k11, cj, k12, k13⟩⟩, ((am_fr.rf.tr Fh3).tr (am_fr.st e6 (by omega) (by omega)))⟩
  · skip
    refine q_blk (lv2 := [(0, vr t), (1, vi lo), (2, vi hi), (3, vi 0)]) (st2 := [vi 0]) kX6_takeNumber_6 rfl ?_
    refine AQ.of (AS.if_eq_t (tgt := 21) eX6_takeNumber_8 (by decide) ⟨by decide, by decide⟩ (by decide)) ?_
    refine q_blk (lv2 := [(0, vr t), (1, vi lo), (2, vi hi), (3, vi 0)]) (st2 := [vi 0]) kX6_takeNumber_21 rfl ?_
    exact q_rz rfl eX6_takeNumber_22 (by decide) ⟨0, rfl, Or.inr ⟨rfl, _, _, qh3, Xh3⟩, (am_fr.rf.tr Fh3)⟩

set_option maxHeartbeats 1000000 in
theorem c_X6_seePoint {w : am_w} {h : AH} {t u b j : Nat} {kd st vl : Int → Int} {he nu px cl hs er ea : Int} {cd : Int → Int} (hS : SU h t u b j kd st vl he nu px cl hs er ea cd) {n : Int} (n0 : n ≤ 800) (kn : kd n = 0) (he0 : 0 ≤ he) (he1 : he ≤ n) (kr : ∀ i, 0 ≤ i → i < 801 → -5 ≤ kd i ∧ kd i ≤ 100) (vq : ∀ i, 0 ≤ i → i < 801 → 0 ≤ vl i ∧ vl i ≤ 10000) (cl0 : 0 ≤ cl) (cl1 : cl ≤ 800) {D cm : Int → Int} {sc : Nat} (hB : BD h b D cm sc) (hD : VD D) (hd : t + 7 ≤ b ∨ b + 24 ≤ t)  : AE w m_X6_seePoint 4 [vr t] h (am_int (fun z h1 => ((z = 1 ∧ ∃ x y, rP kd st vl (D 0) (D 1) he = .inr (x, y) ∧ SU h1 t u b j kd st vl (he + 1) y x cl hs er ea cd) ∨ (z = 0 ∧ ∃ e a, rP kd st vl (D 0) (D 1) he = .inl (e, a) ∧ SF h1 t u b j kd st vl e a)) ∧ am_fr h h1 t (t + 7))) := by
  refine AE.of wf_X6_seePoint (Nat.le_of_ble_eq_true rfl) (am_ok_z (fun z h1 q => by rcases q.1 with q | q; exact Or.inr q.1; exact Or.inl q.1)) ?_
  obtain ⟨tc, c0, c1, c2, c3, c4, cj, c5, cL⟩ := id hS
  obtain ⟨⟨sx, sy, sv, ⟨b0, b1, b2, b3, b4, b5⟩, hst⟩, hall, hsh⟩ := id hB
  have d0 := hD.1
  have d1 := hD.2.1
  have d2 := hD.2.2.1
  have d3 := hD.2.2.2.1
  refine q_blk (lv2 := [(0, vr t)]) (st2 := [vr t, vi 0, vr t]) kX6_seePoint_0 rfl ?_
  refine q_gr eX6_seePoint_3 fl_RX6_54 (Or.inl ⟨_, rfl⟩) c0 rfl ?_
  refine q_gi eX6_seePoint_6 fl_RX6_155 (Or.inl rfl) b0 (z := (D 0)) rfl ?_
  refine AQ.callVi (av := [vi 0, vi (D 0)]) (st := []) (c_X6_takeNumber ⟨_, c0, c1, c2, c3, c4, cj, c5, cL⟩ (by omega) (by omega) kr vq (by omega) (by omega) (lo := 0) (hi := (D 0)) (by omega) (by omega) (by omega) (by omega)) lk_RX6_160 (by decide) rfl rfl ⟨_, _, _, c0⟩ ⟨_, rfl, rfl⟩ (Nat.le_of_ble_eq_true rfl) eX6_seePoint_9 (fun z1 h3 e2 => ?_)
  rcases e2 with ⟨⟨rfl, qh3, Xh3⟩ | ⟨rfl, eh3, ah3, qh3, Xh3⟩, Fh3⟩
  · skip
    obtain ⟨g4t, g40, g41, g42, g43, g44, g4j, g45, g4L⟩ := id Xh3
    have k5 := (Fh3.2 b (by omega)).trans b0
    have k6 := hB.kept Fh3 (by omega) (by omega)
    have k7 := (Fh3.2 (b + 1) (by omega)).trans b1
    have k8 := (Fh3.2 (b + 2) (by omega)).trans b2
    have k9 := (Fh3.2 (b + 3) (by omega)).trans b3
    have k10 := (Fh3.2 (b + 4) (by omega)).trans b4
    have k11 := (Fh3.2 (b + 5) (by omega)).trans b5
    have rh3 := rN_r qh3
    have nh3 : he ≠ n := fun e9 => by rw [e9] at rh3; omega
    refine AQ.of (AS.if_ne_t (tgt := 17) eX6_seePoint_12 (by decide) ⟨by decide, by decide⟩ (by decide)) ?_
    refine q_blk (lv2 := [(0, vr t)]) (st2 := [vr t, vr t]) kX6_seePoint_17 rfl ?_
    refine q_gi eX6_seePoint_19 fl_RX6_31 (Or.inl rfl) g40 (z := (vl he)) rfl ?_
    refine q_pi eX6_seePoint_22 fl_RX6_34 (fun q hq => by cases hq; exact Or.inl rfl) (Or.inl rfl) g40 (Nat.le_of_ble_eq_true rfl) (l2 := [0, 0, 0, 0, 0, 0, 0, g4t, (he + 1), (vl he), (vl he), cl, hs, er, ea]) rfl (fun h12 e13 => ?_)
    have k14 := (am_ne e13 b (by omega)).trans k5
    have k15 := k6.kept (lo := t) (hi := t + 1) (am_fr.st e13 (by omega) (by omega)) (by omega) (by omega)
    have k16 := (am_ne e13 (b + 1) (by omega)).trans k7
    have k17 := (am_ne e13 (b + 2) (by omega)).trans k8
    have k18 := (am_ne e13 (b + 3) (by omega)).trans k9
    have k19 := (am_ne e13 (b + 4) (by omega)).trans k10
    have k20 := (am_ne e13 (b + 5) (by omega)).trans k11
    have k21 := am_at e13
    have k22 := (am_ne e13 (t + 3) (by omega)).trans g41
    have k23 := (am_ne e13 (t + 4) (by omega)).trans g42
    have k24 := (am_ne e13 (t + 5) (by omega)).trans g43
    have k25 := (am_ne e13 (t + 6) (by omega)).trans g44
    have k26 := (am_ne e13 j (by omega)).trans g45
    have k27 := g4L.kept (lo := t) (hi := t + 1) (am_fr.st e13 (by omega) (by omega)) (by omega)
    refine q_blk (lv2 := [(0, vr t)]) (st2 := [vr t, vi 0, vr t]) kX6_seePoint_25 rfl ?_
    refine q_gr eX6_seePoint_28 fl_RX6_54 (Or.inl ⟨_, rfl⟩) k21 rfl ?_
    refine q_gi eX6_seePoint_31 fl_RX6_163 (Or.inl rfl) k14 (z := (D 1)) rfl ?_
    refine AQ.callVi (av := [vi 0, vi (D 1)]) (st := []) (c_X6_seeNumber ⟨_, k21, k22, k23, k24, k25, cj, k26, k27⟩ (by omega) (by omega) kr vq (by omega) (by omega) (lo := 0) (hi := (D 1)) (by omega) (by omega) (by omega) (by omega)) lk_RX6_151 (by decide) rfl rfl ⟨_, _, _, k21⟩ ⟨_, rfl, rfl⟩ (Nat.le_of_ble_eq_true rfl) eX6_seePoint_34 (fun z28 h30 e29 => ?_)
    rcases e29 with ⟨⟨rfl, qh30, Xh30⟩ | ⟨rfl, eh30, ah30, qh30, Xh30⟩, Fh30⟩
    · skip
      obtain ⟨g31t, g310, g311, g312, g313, g314, g31j, g315, g31L⟩ := id Xh30
      have k32 := (Fh30.2 b (by omega)).trans k14
      have k33 := k15.kept Fh30 (by omega) (by omega)
      have k34 := (Fh30.2 (b + 1) (by omega)).trans k16
      have k35 := (Fh30.2 (b + 2) (by omega)).trans k17
      have k36 := (Fh30.2 (b + 3) (by omega)).trans k18
      have k37 := (Fh30.2 (b + 4) (by omega)).trans k19
      have k38 := (Fh30.2 (b + 5) (by omega)).trans k20
      have rh30 := rN_r qh30
      have nh30 : (he + 1) ≠ n := fun e9 => by rw [e9] at rh30; omega
      exact q_rz rfl eX6_seePoint_37 (by decide) ⟨1, rfl, Or.inl ⟨rfl, _, _, ((rB_r qh3 _).trans (rB_r qh30 _)), ⟨_, g310, g311, g312, g313, g314, cj, g315, g31L⟩⟩, (((am_fr.rf.tr Fh3).tr (am_fr.st e13 (by omega) (by omega))).tr Fh30)⟩
    · skip
      have k39 := k15.kept Fh30 (by omega) (by omega)
      exact q_rz rfl eX6_seePoint_37 (by decide) ⟨0, rfl, Or.inr ⟨rfl, _, _, ((rB_r qh3 _).trans (rB_l qh30 _)), Xh30⟩, (((am_fr.rf.tr Fh3).tr (am_fr.st e13 (by omega) (by omega))).tr Fh30)⟩
  · skip
    have k40 := hB.kept Fh3 (by omega) (by omega)
    refine AQ.of (AS.if_ne_f eX6_seePoint_12 ⟨by decide, by decide⟩ (by decide) (by decide)) ?_
    refine q_blk (lv2 := [(0, vr t)]) (st2 := [vi 0]) kX6_seePoint_15 rfl ?_
    exact q_rz rfl eX6_seePoint_16 (by decide) ⟨0, rfl, Or.inr ⟨rfl, _, _, (rB_l qh3 _), Xh3⟩, (am_fr.rf.tr Fh3)⟩

set_option maxHeartbeats 1000000 in
theorem c_X6_readField {w : am_w} {h : AH} {t u b j : Nat} {kd st vl : Int → Int} {nu px cl hs er ea : Int} {cd : Int → Int} (hS : SU h t u b j kd st vl 0 nu px cl hs er ea cd) {n : Int} (n0 : n ≤ 800) (kn : kd n = 0) (n00 : 0 ≤ n) (kr : ∀ i, 0 ≤ i → i < 801 → -5 ≤ kd i ∧ kd i ≤ 100) (vq : ∀ i, 0 ≤ i → i < 801 → 0 ≤ vl i ∧ vl i ≤ 10000) (cl0 : 0 ≤ cl) (cl1 : cl ≤ 800) (hA : BA h b) (hd : t + 7 ≤ b ∨ b + 24 ≤ t)  : AE w m_X6_readField 4 [vr t] h (am_int (fun z h1 => ∃ h2 h3, ((z = 1 ∧ ∃ x y, rF kd st vl = .inr (x, y) ∧ SU h1 t u b j kd st vl 4 y px cl hs er ea cd ∧ ∃ cm, BD h1 b (gm_emp x y) cm (w.2 100)) ∨ (z = 0 ∧ ∃ e a, rF kd st vl = .inl (e, a) ∧ SF h1 t u b j kd st vl e a ∧ BA h1 b)) ∧ am_fr h h2 t (t + 7) ∧ am_fr h2 h3 b (b + 24) ∧ am_fr h3 h1 t (t + 7))) := by
  refine AE.of wf_X6_readField (Nat.le_of_ble_eq_true rfl) (am_ok_z (fun z h1 q => by obtain ⟨_, _, q, -⟩ := q; rcases q with q | q; exact Or.inr q.1; exact Or.inl q.1)) ?_
  obtain ⟨tc, c0, c1, c2, c3, c4, cj, c5, cL⟩ := id hS
  refine q_blk (lv2 := [(0, vr t)]) (st2 := [vi 3, vr t]) kX6_readField_0 rfl ?_
  refine AQ.callVi (av := [vi 3]) (st := []) (c_X6_take ⟨_, c0, c1, c2, c3, c4, cj, c5, cL⟩ (by omega) (by omega) kr vq (k := 3) (by omega) (by omega)) lk_RX6_166 (by decide) rfl rfl ⟨_, _, _, c0⟩ ⟨_, rfl, rfl⟩ (Nat.le_of_ble_eq_true rfl) eX6_readField_2 (fun z1 h3 e2 => ?_)
  rcases e2 with ⟨⟨rfl, qh3, Xh3⟩ | ⟨rfl, qh3, Xh3⟩, Fh3⟩
  · skip
    obtain ⟨g4t, g40, g41, g42, g43, g44, g4j, g45, g4L⟩ := id Xh3
    have nh3 : 0 ≠ n := fun e9 => by rw [e9] at qh3; omega
    refine AQ.of (AS.if_eq_f eX6_readField_5 ⟨by decide, by decide⟩ (by decide) (by decide)) ?_
    refine q_blk (lv2 := [(0, vr t)]) (st2 := [vi 30, vi 2, vr t]) kX6_readField_8 rfl ?_
    refine AQ.callVi (av := [vi 2, vi 30]) (st := []) (c_X6_takeNumber ⟨_, g40, g41, g42, g43, g44, cj, g45, g4L⟩ (by omega) (by omega) kr vq (by omega) (by omega) (lo := 2) (hi := 30) (by omega) (by omega) (by omega) (by omega)) lk_RX6_160 (by decide) rfl rfl ⟨_, _, _, g40⟩ ⟨_, rfl, rfl⟩ (Nat.le_of_ble_eq_true rfl) eX6_readField_12 (fun z5 h7 e6 => ?_)
    rcases e6 with ⟨⟨rfl, qh7, Xh7⟩ | ⟨rfl, eh7, ah7, qh7, Xh7⟩, Fh7⟩
    · skip
      obtain ⟨g8t, g80, g81, g82, g83, g84, g8j, g85, g8L⟩ := id Xh7
      have rh7 := rN_r qh7
      have nh7 : (0 + 1) ≠ n := fun e9 => by rw [e9] at rh7; omega
      refine AQ.of (AS.if_ne_t (tgt := 20) eX6_readField_15 (by decide) ⟨by decide, by decide⟩ (by decide)) ?_
      refine q_blk (lv2 := [(0, vr t)]) (st2 := [vr t]) kX6_readField_20 rfl ?_
      refine q_gi eX6_readField_21 fl_RX6_31 (Or.inl rfl) g80 (z := (vl (0 + 1))) rfl ?_
      refine q_blk (lv2 := [(0, vr t), (1, vi (vl (0 + 1)))]) (st2 := [vi 30, vi 2, vr t]) kX6_readField_24 rfl ?_
      refine AQ.callVi (av := [vi 2, vi 30]) (st := []) (c_X6_takeNumber ⟨_, g80, g81, g82, g83, g84, cj, g85, g8L⟩ (by omega) (by omega) kr vq (by omega) (by omega) (lo := 2) (hi := 30) (by omega) (by omega) (by omega) (by omega)) lk_RX6_160 (by decide) rfl rfl ⟨_, _, _, g80⟩ ⟨_, rfl, rfl⟩ (Nat.le_of_ble_eq_true rfl) eX6_readField_29 (fun z9 h11 e10 => ?_)
      rcases e10 with ⟨⟨rfl, qh11, Xh11⟩ | ⟨rfl, eh11, ah11, qh11, Xh11⟩, Fh11⟩
      · skip
        obtain ⟨g12t, g120, g121, g122, g123, g124, g12j, g125, g12L⟩ := id Xh11
        have rh11 := rN_r qh11
        have nh11 : ((0 + 1) + 1) ≠ n := fun e9 => by rw [e9] at rh11; omega
        refine AQ.of (AS.if_ne_t (tgt := 37) eX6_readField_32 (by decide) ⟨by decide, by decide⟩ (by decide)) ?_
        refine q_blk (lv2 := [(0, vr t), (1, vi (vl (0 + 1)))]) (st2 := [vr t]) kX6_readField_37 rfl ?_
        refine q_gr eX6_readField_38 fl_RX6_54 (Or.inl ⟨_, rfl⟩) g120 rfl ?_
        refine q_blk (lv2 := [(0, vr t), (1, vi (vl (0 + 1)))]) (st2 := [vr t, vi (vl (0 + 1)), vr b]) kX6_readField_41 rfl ?_
        refine q_gi eX6_readField_43 fl_RX6_31 (Or.inl rfl) g120 (z := (vl ((0 + 1) + 1))) rfl ?_
        refine AQ.callVv (av := [vi (vl (0 + 1)), vi (vl ((0 + 1) + 1))]) (st := []) (c_X0_empty (x := (vl (0 + 1))) (y := (vl ((0 + 1) + 1))) (hA.kept (lo := t) (hi := t + 7) (((am_fr.rf.tr Fh3).tr Fh7).tr Fh11) (by omega))) lk_RX6_169 (by decide) rfl rfl (BA.ob (hA.kept (lo := t) (hi := t + 7) (((am_fr.rf.tr Fh3).tr Fh7).tr Fh11) (by omega))) ⟨_, rfl, rfl⟩ (Nat.le_of_ble_eq_true rfl) eX6_readField_46 (fun h15 e14 => ?_)
        obtain ⟨⟨cmh15, Xh15⟩, Fh15⟩ := e14
        have k16 := (Fh15.2 t (by omega)).trans g120
        have k17 := (Fh15.2 (t + 3) (by omega)).trans g121
        have k18 := (Fh15.2 (t + 4) (by omega)).trans g122
        have k19 := (Fh15.2 (t + 5) (by omega)).trans g123
        have k20 := (Fh15.2 (t + 6) (by omega)).trans g124
        have k21 := (Fh15.2 j (by omega)).trans g125
        have k22 := g12L.kept Fh15 (by omega)
        refine q_blk (lv2 := [(0, vr t), (1, vi (vl (0 + 1)))]) (st2 := [vi 59, vr t]) kX6_readField_49 rfl ?_
        refine AQ.callVi (av := [vi 59]) (st := []) (c_X6_take ⟨_, k16, k17, k18, k19, k20, cj, k21, k22⟩ (by omega) (by omega) kr vq (k := 59) (by omega) (by omega)) lk_RX6_166 (by decide) rfl rfl ⟨_, _, _, k16⟩ ⟨_, rfl, rfl⟩ (Nat.le_of_ble_eq_true rfl) eX6_readField_52 (fun z23 h25 e24 => ?_)
        rcases e24 with ⟨⟨rfl, qh25, Xh25⟩ | ⟨rfl, qh25, Xh25⟩, Fh25⟩
        · skip
          obtain ⟨g26t, g260, g261, g262, g263, g264, g26j, g265, g26L⟩ := id Xh25
          have nh25 : (((0 + 1) + 1) + 1) ≠ n := fun e9 => by rw [e9] at qh25; omega
          exact q_rz rfl eX6_readField_55 (by decide) ⟨1, rfl, _, _, Or.inl ⟨rfl, _, _, ((rB_r (show rT kd st 3 0 = .inr () by unfold rT; rw [if_pos qh3]) _).trans ((rB_r qh7 _).trans ((rB_r qh11 _).trans (rB_r (show rT kd st 59 (((0 + 1) + 1) + 1) = .inr () by unfold rT; rw [if_pos qh25]) _)))), ⟨_, g260, g261, g262, g263, g264, cj, g265, g26L⟩, ⟨_, Xh15.kept (lo := t) (hi := t + 7) (am_fr.rf.tr Fh25) (by omega) (by unfold gm_emp; omega)⟩⟩, (((am_fr.rf.tr Fh3).tr Fh7).tr Fh11), Fh15, (am_fr.rf.tr Fh25)⟩
        · skip
          obtain ⟨g27t, g270, g271, g272, g273, g274, g27j, g275, g27L⟩ := id Xh25
          exact q_rz rfl eX6_readField_55 (by decide) ⟨0, rfl, _, _, Or.inr ⟨rfl, _, _, ((rB_r (show rT kd st 3 0 = .inr () by unfold rT; rw [if_pos qh3]) _).trans ((rB_r qh7 _).trans ((rB_r qh11 _).trans (rB_l (show rT kd st 59 (((0 + 1) + 1) + 1) = .inl (-2, st (((0 + 1) + 1) + 1)) by unfold rT; rw [if_neg qh25]) _)))), ⟨_, _, _, _, _, _, ⟨_, g270, g271, g272, g273, g274, cj, g275, g27L⟩, by omega, by omega⟩, BA.kept (lo := t) (hi := t + 7) (BD.ba Xh15) (am_fr.rf.tr Fh25) (by omega)⟩, (((am_fr.rf.tr Fh3).tr Fh7).tr Fh11), Fh15, (am_fr.rf.tr Fh25)⟩
      · skip
        refine AQ.of (AS.if_ne_f eX6_readField_32 ⟨by decide, by decide⟩ (by decide) (by decide)) ?_
        refine q_blk (lv2 := [(0, vr t), (1, vi (vl (0 + 1)))]) (st2 := [vi 0]) kX6_readField_35 rfl ?_
        exact q_rz rfl eX6_readField_36 (by decide) ⟨0, rfl, _, _, Or.inr ⟨rfl, _, _, ((rB_r (show rT kd st 3 0 = .inr () by unfold rT; rw [if_pos qh3]) _).trans ((rB_r qh7 _).trans (rB_l qh11 _))), Xh11, BA.kept (lo := t) (hi := t + 7) hA (((am_fr.rf.tr Fh3).tr Fh7).tr Fh11) (by omega)⟩, (((am_fr.rf.tr Fh3).tr Fh7).tr Fh11), am_fr.rf, am_fr.rf⟩
    · skip
      refine AQ.of (AS.if_ne_f eX6_readField_15 ⟨by decide, by decide⟩ (by decide) (by decide)) ?_
      refine q_blk (lv2 := [(0, vr t)]) (st2 := [vi 0]) kX6_readField_18 rfl ?_
      exact q_rz rfl eX6_readField_19 (by decide) ⟨0, rfl, _, _, Or.inr ⟨rfl, _, _, ((rB_r (show rT kd st 3 0 = .inr () by unfold rT; rw [if_pos qh3]) _).trans (rB_l qh7 _)), Xh7, BA.kept (lo := t) (hi := t + 7) hA ((am_fr.rf.tr Fh3).tr Fh7) (by omega)⟩, ((am_fr.rf.tr Fh3).tr Fh7), am_fr.rf, am_fr.rf⟩
  · skip
    obtain ⟨g28t, g280, g281, g282, g283, g284, g28j, g285, g28L⟩ := id Xh3
    refine AQ.of (AS.if_eq_t (tgt := 18) eX6_readField_5 (by decide) ⟨by decide, by decide⟩ (by decide)) ?_
    refine q_blk (lv2 := [(0, vr t)]) (st2 := [vi 0]) kX6_readField_18 rfl ?_
    exact q_rz rfl eX6_readField_19 (by decide) ⟨0, rfl, _, _, Or.inr ⟨rfl, _, _, (rB_l (show rT kd st 3 0 = .inl (-2, st 0) by unfold rT; rw [if_neg qh3]) _), ⟨_, _, _, _, _, _, ⟨_, g280, g281, g282, g283, g284, cj, g285, g28L⟩, by omega, by omega⟩, BA.kept (lo := t) (hi := t + 7) hA (am_fr.rf.tr Fh3) (by omega)⟩, (am_fr.rf.tr Fh3), am_fr.rf, am_fr.rf⟩
