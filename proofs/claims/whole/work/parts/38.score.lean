/-! CornerClaims$Setup: the score's statement. -/
def rW (kd st vl : Int → Int) (hs he : Int) : GRL := if hs = 0 then rB (rU kd st vl 4 [] (he + 1)) (fun r => rB (rT kd st 59 r.2) fun _ => .inr (r.1, r.2 + 1)) else .inl (-2, st he)
/-- as am_f3, but a cell is made, of so many slots at most -/
def am_g2 (h h1 : AH) (t b : Nat) : Prop := (h.2.1 ≤ h1.2.1 ∧ h1.2.1 ≤ h.2.1 + 1 ∧ h.2.2 ≤ h1.2.2 ∧ h1.2.2 ≤ h.2.2 + 800) ∧ ∀ q, q < h.2.1 → ¬ (t ≤ q ∧ q < t + 5) → ¬ (b ≤ q ∧ q < b + 24) → h1.1 q = h.1 q
theorem am_fr.g {h h1 : AH} {t b : Nat} (f : am_fr h h1 t (t + 5)) : am_g2 h h1 t b := ⟨by rw [f.1]; omega, fun q _ a _ => f.2 q a⟩
theorem BD.sc {h h1 : AH} {b : Nat} {D cm : Int → Int} {sc sc' : Nat} (hB : BD h b D cm sc) (hn : D 3 ≤ 6) (f : am_fr h h1 b (b + 1)) (e : h1.1 b = some (0, 10, am_L [0, 0, 0, 0, 0, D 0, D 1, D 2, D 3, 0], am_G [some (b + 1), some (b + 2), some (b + 3), some (b + 4), some (b + 5), none, none, none, none, some sc'])) : BD h1 b D cm sc' := by
  obtain ⟨⟨sx, sy, sv, ⟨c0, c1, c2, c3, c4, c5⟩, h2⟩, h3, h4⟩ := hB
  exact ⟨⟨sx, sy, sv, ⟨e, (f.2 _ (by omega)).trans c1, (f.2 _ (by omega)).trans c2, (f.2 _ (by omega)).trans c3, (f.2 _ (by omega)).trans c4, (f.2 _ (by omega)).trans c5⟩, h2⟩, am_spk h3 f (by omega), fun p p0 p1 => SX.kept (h4 p p0 p1) f (by omega)⟩

theorem BD.keptn {h h1 : AH} {b : Nat} {D cm : Int → Int} {sc z : Nat} (hB : BD h b D cm sc) (f : ∀ q, q ≠ z → h1.1 q = h.1 q) (hd : b + 24 ≤ z ∨ z < b) (hn : D 3 ≤ 6) : BD h1 b D cm sc := by
  obtain ⟨⟨sx, sy, sv, ⟨c0, c1, c2, c3, c4, c5⟩, h2⟩, h3, h4⟩ := hB
  have s : ∀ {a : Nat} {n cl ow : Int} {fx fy : Int → Int}, SP h a n cl ow fx fy → (z < a ∨ a + 3 ≤ z) → SP h1 a n cl ow fx fy := fun ⟨q1, q2, q3⟩ k => ⟨(f _ (by omega)).trans q1, (f _ (by omega)).trans q2, (f _ (by omega)).trans q3⟩
  refine ⟨⟨sx, sy, sv, ⟨(f _ (by omega)).trans c0, (f _ (by omega)).trans c1, (f _ (by omega)).trans c2, (f _ (by omega)).trans c3, (f _ (by omega)).trans c4, (f _ (by omega)).trans c5⟩, h2⟩, fun p p0 p1 => ?_, fun p p0 p1 => ?_⟩
  · obtain ⟨n, cl, ow, fx, fy, q⟩ := h3 p p0 p1
    exact ⟨n, cl, ow, fx, fy, s q (by omega)⟩
  · obtain ⟨fx, fy, q, q2⟩ := h4 p p0 p1
    exact ⟨fx, fy, s q (by omega), q2⟩

theorem am_g2.tr5 {h h1 h2 : AH} {t b : Nat} (g : am_g2 h h1 t b) (f : am_fr h1 h2 t (t + 5)) : am_g2 h h2 t b := ⟨by rw [f.1]; exact g.1, fun q q0 q1 q2 => (f.2 q q1).trans (g.2 q q0 q1 q2)⟩

set_option maxHeartbeats 1000000 in
theorem c_X6_readScore {w : am_w} {h : AH} {t u b j : Nat} {kd st vl : Int → Int} {he nu px cl hs er ea : Int} {cd : Int → Int} (hS : SU h t u b j kd st vl he nu px cl hs er ea cd) {n : Int} (n0 : n ≤ 800) (kn : kd n = 0) (he0 : 0 ≤ he) (he1 : he ≤ n) (kr : ∀ i, 0 ≤ i → i < 801 → -5 ≤ kd i ∧ kd i ≤ 100) (vq : ∀ i, 0 ≤ i → i < 801 → 0 ≤ vl i ∧ vl i ≤ 10000) (cl0 : 0 ≤ cl) (cl1 : cl ≤ 800) {D cm : Int → Int} {sc : Nat} (hB : BD h b D cm sc) (hD : VD D) (hd : t + 5 ≤ b ∨ b + 24 ≤ t) (hk : kd he ≠ 0) (hs0 : hs = 0 ∨ hs = 1) (ht : t + 5 ≤ h.2.1) (hb9 : b + 24 ≤ h.2.1)  : AE w m_X6_readScore 19 [vr t] h (am_int (fun z h1 => ((z = 1 ∧ ∃ L' he', rW kd st vl hs he = .inr (L', he') ∧ (he < he' ∧ he' ≤ n) ∧ (∃ nu' cd', SU h1 t u b j kd st vl he' nu' px (L'.length : Int) 1 er ea cd') ∧ BD h1 b D cm h.2.1 ∧ CD h1 h.2.1 L') ∨ (z = 0 ∧ ∃ e a, rW kd st vl hs he = .inl (e, a) ∧ SF h1 t u b j kd st vl e a ∧ BA h1 b)) ∧ am_g2 h h1 t b)) := by
  refine AE.of wf_X6_readScore (Nat.le_of_ble_eq_true rfl) (am_ok_z (fun z h1 q => by rcases q.1 with q | q; exact Or.inr q.1; exact Or.inl q.1)) ?_
  obtain ⟨tc, c0, c1, c2, c3, c4⟩ := id hS
  obtain ⟨⟨sx, sy, sv, ⟨b0, b1, b2, b3, b4, b5⟩, hst⟩, hall, hsh⟩ := id hB
  have d0 := hD.1
  have d1 := hD.2.1
  have d2 := hD.2.2.1
  have d3 := hD.2.2.2.1
  have hen : he ≠ n := fun e9 => by rw [e9] at hk; omega
  refine q_blk (lv2 := [(0, vr t)]) (st2 := [vr t]) kX6_readScore_0 rfl ?_
  refine q_gi eX6_readScore_1 fl_RX6_40 (Or.inr rfl) c0 (z := hs) rfl ?_
  refine AQ.if_eq (tgt := 14) eX6_readScore_4 (by decide) (by first | assumption | exact ⟨by omega, by omega⟩) (fun br1 => ?_) (fun br1 => ?_)
  · skip
    refine q_blk (lv2 := [(0, vr t)]) (st2 := [vi 1, vr t]) kX6_readScore_14 rfl ?_
    refine q_pi eX6_readScore_16 fl_RX6_40 (fun q hq => by cases hq; exact Or.inl rfl) (Or.inr ⟨rfl, by first | decide | omega⟩) c0 (Nat.le_of_ble_eq_true rfl) (l2 := [0, 0, 0, 0, 0, 0, 0, tc, he, nu, px, cl, 1, er, ea]) rfl (fun h2 e3 => ?_)
    have k4 := (am_ne e3 b (by omega)).trans b0
    have k5 := hB.kept (lo := t) (hi := t + 1) (am_fr.st e3 (by omega) (by omega)) (by omega) (by omega)
    have k6 := (am_ne e3 (b + 1) (by omega)).trans b1
    have k7 := (am_ne e3 (b + 2) (by omega)).trans b2
    have k8 := (am_ne e3 (b + 3) (by omega)).trans b3
    have k9 := (am_ne e3 (b + 4) (by omega)).trans b4
    have k10 := (am_ne e3 (b + 5) (by omega)).trans b5
    have k11 := am_at e3
    have k12 := (am_ne e3 (t + 1) (by omega)).trans c1
    have k13 := (am_ne e3 (t + 2) (by omega)).trans c2
    have k14 := (am_ne e3 (t + 3) (by omega)).trans c3
    have k15 := (am_ne e3 (t + 4) (by omega)).trans c4
    refine q_blk (lv2 := [(0, vr t)]) (st2 := [vr t, vr t]) kX6_readScore_19 rfl ?_
    refine q_gi eX6_readScore_21 fl_RX6_28 (Or.inl rfl) k11 (z := he) rfl ?_
    refine q_blk (lv2 := [(0, vr t)]) (st2 := [vi (he + 1), vr t]) kX6_readScore_24 rfl ?_
    refine q_pi eX6_readScore_26 fl_RX6_28 (fun q hq => by cases hq; exact Or.inl rfl) (Or.inl rfl) k11 (Nat.le_of_ble_eq_true rfl) (l2 := [0, 0, 0, 0, 0, 0, 0, tc, (he + 1), nu, px, cl, 1, er, ea]) rfl (fun h16 e17 => ?_)
    have k18 := (am_ne e17 b (by omega)).trans k4
    have k19 := k5.kept (lo := t) (hi := t + 1) (am_fr.st e17 (by omega) (by omega)) (by omega) (by omega)
    have k20 := (am_ne e17 (b + 1) (by omega)).trans k6
    have k21 := (am_ne e17 (b + 2) (by omega)).trans k7
    have k22 := (am_ne e17 (b + 3) (by omega)).trans k8
    have k23 := (am_ne e17 (b + 4) (by omega)).trans k9
    have k24 := (am_ne e17 (b + 5) (by omega)).trans k10
    have k25 := am_at e17
    have k26 := (am_ne e17 (t + 1) (by omega)).trans k12
    have k27 := (am_ne e17 (t + 2) (by omega)).trans k13
    have k28 := (am_ne e17 (t + 3) (by omega)).trans k14
    have k29 := (am_ne e17 (t + 4) (by omega)).trans k15
    refine q_blk (lv2 := [(0, vr t)]) (st2 := [vi 0, vr t]) kX6_readScore_29 rfl ?_
    refine q_pi eX6_readScore_31 fl_RX6_37 (fun q hq => by cases hq; exact Or.inl rfl) (Or.inl rfl) k25 (Nat.le_of_ble_eq_true rfl) (l2 := [0, 0, 0, 0, 0, 0, 0, tc, (he + 1), nu, px, 0, 1, er, ea]) rfl (fun h30 e31 => ?_)
    have k32 := (am_ne e31 b (by omega)).trans k18
    have k33 := k19.kept (lo := t) (hi := t + 1) (am_fr.st e31 (by omega) (by omega)) (by omega) (by omega)
    have k34 := (am_ne e31 (b + 1) (by omega)).trans k20
    have k35 := (am_ne e31 (b + 2) (by omega)).trans k21
    have k36 := (am_ne e31 (b + 3) (by omega)).trans k22
    have k37 := (am_ne e31 (b + 4) (by omega)).trans k23
    have k38 := (am_ne e31 (b + 5) (by omega)).trans k24
    have k39 := am_at e31
    have k40 := (am_ne e31 (t + 1) (by omega)).trans k26
    have k41 := (am_ne e31 (t + 2) (by omega)).trans k27
    have k42 := (am_ne e31 (t + 3) (by omega)).trans k28
    have k43 := (am_ne e31 (t + 4) (by omega)).trans k29
    refine q_blk (lv2 := [(0, vr t)]) (st2 := [vi 0, vr t]) kX6_readScore_34 rfl ?_
    refine AQ.callVi (av := [vi 0]) (st := []) (c_X6_readSum0 (L := []) (SU.cast ⟨_, k39, k40, k41, k42, k43⟩ rfl) n0 kn (by omega) (by omega) kr vq (fun k o q => by simp at q) (by simp; omega)) lk_RX6_215 (by decide) rfl rfl ⟨_, _, _, k39⟩ ⟨_, rfl, rfl⟩ (Nat.le_of_ble_eq_true rfl) eX6_readScore_36 (fun z44 h46 e45 => ?_)
    rcases e45 with ⟨⟨rfl, Lh46, hh46e, qh46, ⟨bh46a, bh46b, bh46c⟩, hh46n, hh46c, Xh46, Ch46⟩ | ⟨rfl, eh46, ah46, qh46, Xh46⟩, Fh46⟩
    · skip
      obtain ⟨g47t, g470, g471, g472, g473, g474⟩ := id Xh46
      have k48 := (Fh46.2 b (by omega)).trans k32
      have k49 := k33.kept Fh46 (by omega) (by omega)
      have k50 := (Fh46.2 (b + 1) (by omega)).trans k34
      have k51 := (Fh46.2 (b + 2) (by omega)).trans k35
      have k52 := (Fh46.2 (b + 3) (by omega)).trans k36
      have k53 := (Fh46.2 (b + 4) (by omega)).trans k37
      have k54 := (Fh46.2 (b + 5) (by omega)).trans k38
      refine AQ.of (AS.if_ne_t (tgt := 44) eX6_readScore_39 (by decide) ⟨by decide, by decide⟩ (by decide)) ?_
      have F44 : am_fr h h46 t (t + 5) := ((am_fr.rf.tr (((am_fr.st e3 (by omega) (by omega)).tr (am_fr.st e17 (by omega) (by omega))).tr (am_fr.st e31 (by omega) (by omega)))).tr Fh46)
      have z44 := F44.1
      have z44a : h46.2.1 = h.2.1 := by rw [z44]
      have e00 : ((([] : GL).length : Nat) : Int) = 0 := rfl
      refine q_blk (lv2 := [(0, vr t)]) (st2 := [vr t]) kX6_readScore_44 rfl ?_
      refine q_gr eX6_readScore_45 fl_RX6_54 (Or.inl ⟨_, rfl⟩) g470 rfl ?_
      refine q_blk (lv2 := [(0, vr t)]) (st2 := [vr t, vr b]) kX6_readScore_48 rfl ?_
      refine q_gr eX6_readScore_49 fl_RX6_21 (Or.inr ⟨_, rfl⟩) g470 rfl ?_
      refine q_blk (lv2 := [(0, vr t)]) (st2 := [vr t, vr (t + 4), vr b]) kX6_readScore_52 rfl ?_
      refine q_gi eX6_readScore_53 fl_RX6_37 (Or.inl rfl) g470 (z := (Lh46.length : Int)) rfl ?_
      refine AQ.of (AS.if_lt_f eX6_readScore_56 (by first | assumption | exact ⟨by omega, by omega⟩) (by omega) (by decide)) ?_
      refine q_blk (lv2 := [(0, vr t)]) (st2 := [vr t, vr (t + 4), vr b]) kX6_readScore_59 rfl ?_
      refine q_gi eX6_readScore_60 fl_RX6_37 (Or.inl rfl) g470 (z := (Lh46.length : Int)) rfl ?_
      refine q_goto (tgt := 67) eX6_readScore_63 (by decide) ?_
      refine AQ.callSr (av := [vr (t + 4), vi (Lh46.length : Int)]) (st := [vr b]) (c_XA_copyOf g474 (by omega) (m := (Lh46.length : Int)) (by omega) (by omega)) lk_RX6_218 (by decide) rfl rfl (Nat.le_of_ble_eq_true rfl) eX6_readScore_67 (fun z55 h57 e56 => ?_)
      obtain ⟨zh57, sh57, ⟨gh57, nh57, ch57⟩, Fh57⟩ := e56
      have z45 : z55 = h.2.1 := zh57.trans (by rw [z44])
      have n45 : h57.1 z55 = some (100, (Lh46.length : Int), gh57, am_N) := by rw [zh57]; exact nh57
      have F45 : ∀ q, q ≠ z55 → h57.1 q = _ := fun q hq => Fh57 q (by rw [← zh57]; exact hq)
      have s45 := sh57
      rw [z44] at s45
      have k58 := (F45 b (by omega)).trans k48
      have k59 := (F45 (b + 1) (by omega)).trans k50
      have k60 := (F45 (b + 2) (by omega)).trans k51
      have k61 := (F45 (b + 3) (by omega)).trans k52
      have k62 := (F45 (b + 4) (by omega)).trans k53
      have k63 := (F45 (b + 5) (by omega)).trans k54
      have k64 := (F45 t (by omega)).trans g470
      have k65 := (F45 (t + 1) (by omega)).trans g471
      have k66 := (F45 (t + 2) (by omega)).trans g472
      have k67 := (F45 (t + 3) (by omega)).trans g473
      have k68 := (F45 (t + 4) (by omega)).trans g474
      have B45 := BD.keptn k49 F45 (by omega) (by omega)
      refine q_pr eX6_readScore_70 fl_RX6_224 (fun q hq => by cases hq; exact Or.inl rfl) (Or.inr ⟨_, rfl⟩) k58 (Nat.le_of_ble_eq_true rfl) (l2 := [some (b + 1), some (b + 2), some (b + 3), some (b + 4), some (b + 5), none, none, none, none, some z55]) rfl (fun h69 e70 => ?_)
      have k71 := am_at e70
      have k72 := (am_ne e70 (b + 1) (by omega)).trans k59
      have k73 := (am_ne e70 (b + 2) (by omega)).trans k60
      have k74 := (am_ne e70 (b + 3) (by omega)).trans k61
      have k75 := (am_ne e70 (b + 4) (by omega)).trans k62
      have k76 := (am_ne e70 (b + 5) (by omega)).trans k63
      have k77 := (am_ne e70 t (by omega)).trans k64
      have k78 := (am_ne e70 (t + 1) (by omega)).trans k65
      have k79 := (am_ne e70 (t + 2) (by omega)).trans k66
      have k80 := (am_ne e70 (t + 3) (by omega)).trans k67
      have k81 := (am_ne e70 (t + 4) (by omega)).trans k68
      have k82 := (am_ne e70 z55 (by omega)).trans n45
      have F46 : am_fr _ h69 b (b + 1) := am_fr.st e70 (by omega) (by omega)
      have B46 := BD.sc B45 (by omega) F46 k71
      have G46 : am_g2 h h69 t b := ⟨by rw [F46.1, s45]; simp <;> omega, fun q q0 q1 q2 => (F46.2 q (by omega)).trans ((F45 q (by omega)).trans (F44.2 q q1))⟩
      refine q_blk (lv2 := [(0, vr t)]) (st2 := [vi 59, vr t]) kX6_readScore_73 rfl ?_
      refine AQ.callVi (av := [vi 59]) (st := []) (c_X6_take ⟨_, k77, k78, k79, k80, k81⟩ (by omega) (by omega) kr vq (k := 59) (by omega) (by omega)) lk_RX6_166 (by decide) rfl rfl ⟨_, _, _, k77⟩ ⟨_, rfl, rfl⟩ (Nat.le_of_ble_eq_true rfl) eX6_readScore_76 (fun z83 h85 e84 => ?_)
      rcases e84 with ⟨⟨rfl, qh85, Xh85⟩ | ⟨rfl, qh85, Xh85⟩, Fh85⟩
      · skip
        obtain ⟨g86t, g860, g861, g862, g863, g864⟩ := id Xh85
        have k87 := (Fh85.2 z55 (by omega)).trans k82
        have k88 := B46.kept Fh85 (by omega) (by omega)
        have nh85 : hh46e ≠ n := fun e9 => by rw [e9] at qh85; omega
        exact q_rz rfl eX6_readScore_79 (by decide) ⟨1, rfl, Or.inl ⟨rfl, Lh46, _, by unfold rW; rw [if_pos (by omega)]; exact (rB_r qh46 _).trans (rB_r (show rT kd st 59 hh46e = .inr () by unfold rT; rw [if_pos qh85]) _), ⟨by omega, by omega⟩, ⟨_, _, ⟨_, g860, g861, g862, g863, g864⟩⟩, by rw [← z45]; exact k88, ⟨100, gh57, am_N, Or.inl rfl, by rw [← z45]; exact k87, by omega, fun k o hk => by have hk2 := (List.getElem?_eq_some_iff.mp hk).1; rw [ch57 k (by omega) (by omega)]; exact Ch46 k o hk⟩⟩, am_g2.tr5 G46 (show am_fr _ _ t (t + 5) from (am_fr.rf.tr Fh85))⟩
      · skip
        obtain ⟨g89t, g890, g891, g892, g893, g894⟩ := id Xh85
        have k90 := (Fh85.2 z55 (by omega)).trans k82
        have k91 := B46.kept Fh85 (by omega) (by omega)
        exact q_rz rfl eX6_readScore_79 (by decide) ⟨0, rfl, Or.inr ⟨rfl, _, _, by unfold rW; rw [if_pos (by omega)]; exact (rB_r qh46 _).trans (rB_l (show rT kd st 59 hh46e = .inl (-2, st hh46e) by unfold rT; rw [if_neg qh85]) _), ⟨_, _, _, _, _, _, ⟨_, g890, g891, g892, g893, g894⟩, by omega, by omega⟩, BD.ba k91⟩, am_g2.tr5 G46 (show am_fr _ _ t (t + 5) from (am_fr.rf.tr Fh85))⟩
    · skip
      refine AQ.of (AS.if_ne_f eX6_readScore_39 ⟨by decide, by decide⟩ (by decide) (by decide)) ?_
      refine q_blk (lv2 := [(0, vr t)]) (st2 := [vi 0]) kX6_readScore_42 rfl ?_
      exact q_rz rfl eX6_readScore_43 (by decide) ⟨0, rfl, Or.inr ⟨rfl, _, _, by unfold rW; rw [if_pos (by omega)]; exact rB_l qh46 _, Xh46, BD.ba (hB.kept ((am_fr.rf.tr (((am_fr.st e3 (by omega) (by omega)).tr (am_fr.st e17 (by omega) (by omega))).tr (am_fr.st e31 (by omega) (by omega)))).tr Fh46) (by omega) (by omega))⟩, am_fr.g ((am_fr.rf.tr (((am_fr.st e3 (by omega) (by omega)).tr (am_fr.st e17 (by omega) (by omega))).tr (am_fr.st e31 (by omega) (by omega)))).tr Fh46)⟩
  · skip
    refine q_blk (lv2 := [(0, vr t)]) (st2 := [vi (-2), vr t]) kX6_readScore_7 rfl ?_
    refine AQ.callVi (av := [vi (-2)]) (st := []) (c_X6_fail (e := (-2)) ⟨_, c0, c1, c2, c3, c4⟩ (by omega) (by omega)) lk_RX6_83 (by decide) rfl rfl ⟨_, _, _, c0⟩ ⟨_, rfl, rfl⟩ (Nat.le_of_ble_eq_true rfl) eX6_readScore_10 (fun z92 h94 e93 => ?_)
    obtain ⟨z920, Xh94, Fh94⟩ := e93
    subst z920
    obtain ⟨g95t, g950, g951, g952, g953, g954⟩ := id Xh94
    have k96 := (Fh94.2 b (by omega)).trans b0
    have k97 := hB.kept Fh94 (by omega) (by omega)
    have k98 := (Fh94.2 (b + 1) (by omega)).trans b1
    have k99 := (Fh94.2 (b + 2) (by omega)).trans b2
    have k100 := (Fh94.2 (b + 3) (by omega)).trans b3
    have k101 := (Fh94.2 (b + 4) (by omega)).trans b4
    have k102 := (Fh94.2 (b + 5) (by omega)).trans b5
    exact q_rz rfl eX6_readScore_13 (by decide) ⟨0, rfl, Or.inr ⟨rfl, _, _, by unfold rW; rw [if_neg (by omega)], ⟨_, _, _, _, _, _, ⟨_, g950, g951, g952, g953, g954⟩, by omega, by omega⟩, BD.ba (hB.kept (am_fr.rf.tr Fh94) (by omega) (by omega))⟩, am_fr.g (am_fr.rf.tr Fh94)⟩
