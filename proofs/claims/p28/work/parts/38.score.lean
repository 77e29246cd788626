/-! CornerClaims$Setup: the score's statement. -/
def rW (kd st vl : Int → Int) (hs he : Int) : GRL := if hs = 0 then rB (rU kd st vl 4 [] (he + 1)) (fun r => rB (rT kd st 59 r.2) fun _ => .inr (r.1, r.2 + 1)) else .inl (-2, st he)
/-- as am_f3, but a cell is made, of so many slots at most -/
def am_g2 (h h1 : AH) (t b : Nat) : Prop := (h.2.1 ≤ h1.2.1 ∧ h1.2.1 ≤ h.2.1 + 1 ∧ h.2.2 ≤ h1.2.2 ∧ h1.2.2 ≤ h.2.2 + 800) ∧ ∀ q, q < h.2.1 → ¬ (t ≤ q ∧ q < t + 7) → ¬ (b ≤ q ∧ q < b + 24) → h1.1 q = h.1 q
theorem am_fr.g {h h1 : AH} {t b : Nat} (f : am_fr h h1 t (t + 7)) : am_g2 h h1 t b := ⟨by rw [f.1]; omega, fun q _ a _ => f.2 q a⟩
theorem BD.sc {h h1 : AH} {b : Nat} {D cm : Int → Int} {sc sc' : Nat} (hB : BD h b D cm sc) (hn : D 3 ≤ 6) (f : am_fr h h1 b (b + 1)) (e : h1.1 b = some (0, 10, am_L [0, 0, 0, 0, 0, D 0, D 1, D 2, D 3, 0], am_G [some (b + 1), some (b + 2), some (b + 3), some (b + 4), some (b + 5), none, none, none, none, some sc'])) : BD h1 b D cm sc' := by
  obtain ⟨⟨sx, sy, sv, ⟨c0, c1, c2, c3, c4, c5⟩, h2⟩, h3, h4⟩ := hB
  exact ⟨⟨sx, sy, sv, ⟨e, (f.2 _ (by omega)).trans c1, (f.2 _ (by omega)).trans c2, (f.2 _ (by omega)).trans c3, (f.2 _ (by omega)).trans c4, (f.2 _ (by omega)).trans c5⟩, h2⟩, am_spk h3 f (by omega), fun p p0 p1 => SX.kept (h4 p p0 p1) f (by omega)⟩

theorem LJ.keptn {h h1 : AH} {l z : Nat} (hL : LJ h l) (f : ∀ q, q ≠ z → h1.1 q = h.1 q) (hd : l ≠ z) : LJ h1 l := by
  obtain ⟨a, b, c, d, e, g, i, j, h1, h2⟩ := hL
  exact ⟨a, b, c, d, e, g, i, j, (f _ hd).trans h1, h2⟩
theorem BD.keptn {h h1 : AH} {b : Nat} {D cm : Int → Int} {sc z : Nat} (hB : BD h b D cm sc) (f : ∀ q, q ≠ z → h1.1 q = h.1 q) (hd : b + 24 ≤ z ∨ z < b) (hn : D 3 ≤ 6) : BD h1 b D cm sc := by
  obtain ⟨⟨sx, sy, sv, ⟨c0, c1, c2, c3, c4, c5⟩, h2⟩, h3, h4⟩ := hB
  have s : ∀ {a : Nat} {n cl ow : Int} {fx fy : Int → Int}, SP h a n cl ow fx fy → (z < a ∨ a + 3 ≤ z) → SP h1 a n cl ow fx fy := fun ⟨q1, q2, q3⟩ k => ⟨(f _ (by omega)).trans q1, (f _ (by omega)).trans q2, (f _ (by omega)).trans q3⟩
  refine ⟨⟨sx, sy, sv, ⟨(f _ (by omega)).trans c0, (f _ (by omega)).trans c1, (f _ (by omega)).trans c2, (f _ (by omega)).trans c3, (f _ (by omega)).trans c4, (f _ (by omega)).trans c5⟩, h2⟩, fun p p0 p1 => ?_, fun p p0 p1 => ?_⟩
  · obtain ⟨n, cl, ow, fx, fy, q⟩ := h3 p p0 p1
    exact ⟨n, cl, ow, fx, fy, s q (by omega)⟩
  · obtain ⟨fx, fy, q, q2⟩ := h4 p p0 p1
    exact ⟨fx, fy, s q (by omega), q2⟩

theorem am_g2.tr5 {h h1 h2 : AH} {t b : Nat} (g : am_g2 h h1 t b) (f : am_fr h1 h2 t (t + 7)) : am_g2 h h2 t b := ⟨by rw [f.1]; exact g.1, fun q q0 q1 q2 => (f.2 q q1).trans (g.2 q q0 q1 q2)⟩

set_option maxHeartbeats 1000000 in
theorem c_X6_readScore {w : am_w} {h : AH} {t u b j : Nat} {kd st vl : Int → Int} {he nu px cl hs er ea : Int} {cd : Int → Int} (hS : SU h t u b j kd st vl he nu px cl hs er ea cd) {n : Int} (n0 : n ≤ 800) (kn : kd n = 0) (he0 : 0 ≤ he) (he1 : he ≤ n) (kr : ∀ i, 0 ≤ i → i < 801 → -5 ≤ kd i ∧ kd i ≤ 100) (vq : ∀ i, 0 ≤ i → i < 801 → 0 ≤ vl i ∧ vl i ≤ 10000) (cl0 : 0 ≤ cl) (cl1 : cl ≤ 800) {D cm : Int → Int} {sc : Nat} (hB : BD h b D cm sc) (hD : VD D) (hd : t + 7 ≤ b ∨ b + 24 ≤ t) (hk : kd he ≠ 0) (hs0 : hs = 0 ∨ hs = 1) (ht : t + 7 ≤ h.2.1) (hb9 : b + 24 ≤ h.2.1)  : AE w m_X6_readScore 19 [vr t] h (am_int (fun z h1 => ((z = 1 ∧ ∃ L' he', rW kd st vl hs he = .inr (L', he') ∧ (he < he' ∧ he' ≤ n) ∧ (∃ nu' cd', SU h1 t u b j kd st vl he' nu' px (L'.length : Int) 1 er ea cd') ∧ BD h1 b D cm h.2.1 ∧ CD h1 h.2.1 L' ∧ h1.2.1 = h.2.1 + 1) ∨ (z = 0 ∧ ∃ e a, rW kd st vl hs he = .inl (e, a) ∧ SF h1 t u b j kd st vl e a ∧ BA h1 b)) ∧ am_g2 h h1 t b)) := by
  refine AE.of wf_X6_readScore (Nat.le_of_ble_eq_true rfl) (am_ok_z (fun z h1 q => by rcases q.1 with q | q; exact Or.inr q.1; exact Or.inl q.1)) ?_
  obtain ⟨tc, c0, c1, c2, c3, c4, cj, c5, cL⟩ := id hS
  obtain ⟨⟨sx, sy, sv, ⟨b0, b1, b2, b3, b4, b5⟩, hst⟩, hall, hsh⟩ := id hB
  have d0 := hD.1
  have d1 := hD.2.1
  have d2 := hD.2.2.1
  have d3 := hD.2.2.2.1
  have hen : he ≠ n := fun e9 => by rw [e9] at hk; omega
  refine q_blk (lv2 := [(0, vr t)]) (st2 := [vr t]) kX6_readScore_0 rfl ?_
  refine q_gi eX6_readScore_1 fl_RX6_40 (Or.inr rfl) c0 (z := hs) rfl ?_
  refine AQ.if_eq (tgt := 14) eX6_readScore_4 (by decide) (by first | assumption | exact ⟨by omega, by omega⟩) (fun br1 => ?_) (fun br1 => ?_)
  · skip
    refine q_blk (lv2 := [(0, vr t)]) (st2 := [vi 1, vr t]) kX6_readScore_14 rfl ?_
    refine q_pi eX6_readScore_16 fl_RX6_40 (fun q hq => by cases hq; exact Or.inl rfl) (Or.inr ⟨rfl, by first | decide | omega⟩) c0 (Nat.le_of_ble_eq_true rfl) (l2 := [0, 0, 0, 0, 0, 0, 0, tc, he, nu, px, cl, 1, er, ea]) rfl (fun h2 e3 => ?_)
    have k4 := (am_ne e3 b (by omega)).trans b0
    have k5 := hB.kept (lo := t) (hi := t + 1) (am_fr.st e3 (by omega) (by omega)) (by omega) (by omega)
    have k6 := (am_ne e3 (b + 1) (by omega)).trans b1
    have k7 := (am_ne e3 (b + 2) (by omega)).trans b2
    have k8 := (am_ne e3 (b + 3) (by omega)).trans b3
    have k9 := (am_ne e3 (b + 4) (by omega)).trans b4
    have k10 := (am_ne e3 (b + 5) (by omega)).trans b5
    have k11 := am_at e3
    have k12 := (am_ne e3 (t + 3) (by omega)).trans c1
    have k13 := (am_ne e3 (t + 4) (by omega)).trans c2
    have k14 := (am_ne e3 (t + 5) (by omega)).trans c3
    have k15 := (am_ne e3 (t + 6) (by omega)).trans c4
    have k16 := (am_ne e3 j (by omega)).trans c5
    have k17 := cL.kept (lo := t) (hi := t + 1) (am_fr.st e3 (by omega) (by omega)) (by omega)
    refine q_blk (lv2 := [(0, vr t)]) (st2 := [vr t, vr t]) kX6_readScore_19 rfl ?_
    refine q_gi eX6_readScore_21 fl_RX6_28 (Or.inl rfl) k11 (z := he) rfl ?_
    refine q_blk (lv2 := [(0, vr t)]) (st2 := [vi (he + 1), vr t]) kX6_readScore_24 rfl ?_
    refine q_pi eX6_readScore_26 fl_RX6_28 (fun q hq => by cases hq; exact Or.inl rfl) (Or.inl rfl) k11 (Nat.le_of_ble_eq_true rfl) (l2 := [0, 0, 0, 0, 0, 0, 0, tc, (he + 1), nu, px, cl, 1, er, ea]) rfl (fun h18 e19 => ?_)
    have k20 := (am_ne e19 b (by omega)).trans k4
    have k21 := k5.kept (lo := t) (hi := t + 1) (am_fr.st e19 (by omega) (by omega)) (by omega) (by omega)
    have k22 := (am_ne e19 (b + 1) (by omega)).trans k6
    have k23 := (am_ne e19 (b + 2) (by omega)).trans k7
    have k24 := (am_ne e19 (b + 3) (by omega)).trans k8
    have k25 := (am_ne e19 (b + 4) (by omega)).trans k9
    have k26 := (am_ne e19 (b + 5) (by omega)).trans k10
    have k27 := am_at e19
    have k28 := (am_ne e19 (t + 3) (by omega)).trans k12
    have k29 := (am_ne e19 (t + 4) (by omega)).trans k13
    have k30 := (am_ne e19 (t + 5) (by omega)).trans k14
    have k31 := (am_ne e19 (t + 6) (by omega)).trans k15
    have k32 := (am_ne e19 j (by omega)).trans k16
    have k33 := k17.kept (lo := t) (hi := t + 1) (am_fr.st e19 (by omega) (by omega)) (by omega)
    refine q_blk (lv2 := [(0, vr t)]) (st2 := [vi 0, vr t]) kX6_readScore_29 rfl ?_
    refine q_pi eX6_readScore_31 fl_RX6_37 (fun q hq => by cases hq; exact Or.inl rfl) (Or.inl rfl) k27 (Nat.le_of_ble_eq_true rfl) (l2 := [0, 0, 0, 0, 0, 0, 0, tc, (he + 1), nu, px, 0, 1, er, ea]) rfl (fun h34 e35 => ?_)
    have k36 := (am_ne e35 b (by omega)).trans k20
    have k37 := k21.kept (lo := t) (hi := t + 1) (am_fr.st e35 (by omega) (by omega)) (by omega) (by omega)
    have k38 := (am_ne e35 (b + 1) (by omega)).trans k22
    have k39 := (am_ne e35 (b + 2) (by omega)).trans k23
    have k40 := (am_ne e35 (b + 3) (by omega)).trans k24
    have k41 := (am_ne e35 (b + 4) (by omega)).trans k25
    have k42 := (am_ne e35 (b + 5) (by omega)).trans k26
    have k43 := am_at e35
    have k44 := (am_ne e35 (t + 3) (by omega)).trans k28
    have k45 := (am_ne e35 (t + 4) (by omega)).trans k29
    have k46 := (am_ne e35 (t + 5) (by omega)).trans k30
    have k47 := (am_ne e35 (t + 6) (by omega)).trans k31
    have k48 := (am_ne e35 j (by omega)).trans k32
    have k49 := k33.kept (lo := t) (hi := t + 1) (am_fr.st e35 (by omega) (by omega)) (by omega)
    refine q_blk (lv2 := [(0, vr t)]) (st2 := [vi 0, vr t]) kX6_readScore_34 rfl ?_
    refine AQ.callVi (av := [vi 0]) (st := []) (c_X6_readSum0 (L := []) (SU.cast ⟨_, k43, k44, k45, k46, k47, cj, k48, k49⟩ rfl) n0 kn (by omega) (by omega) kr vq (fun k o q => by simp at q) (by simp; omega)) lk_RX6_215 (by decide) rfl rfl ⟨_, _, _, k43⟩ ⟨_, rfl, rfl⟩ (Nat.le_of_ble_eq_true rfl) eX6_readScore_36 (fun z50 h52 e51 => ?_)
    rcases e51 with ⟨⟨rfl, Lh52, hh52e, qh52, ⟨bh52a, bh52b, bh52c⟩, hh52n, hh52c, Xh52, Ch52⟩ | ⟨rfl, eh52, ah52, qh52, Xh52⟩, Fh52⟩
    · skip
      obtain ⟨g53t, g530, g531, g532, g533, g534, g53j, g535, g53L⟩ := id Xh52
      have k54 := (Fh52.2 b (by omega)).trans k36
      have k55 := k37.kept Fh52 (by omega) (by omega)
      have k56 := (Fh52.2 (b + 1) (by omega)).trans k38
      have k57 := (Fh52.2 (b + 2) (by omega)).trans k39
      have k58 := (Fh52.2 (b + 3) (by omega)).trans k40
      have k59 := (Fh52.2 (b + 4) (by omega)).trans k41
      have k60 := (Fh52.2 (b + 5) (by omega)).trans k42
      refine AQ.of (AS.if_ne_t (tgt := 44) eX6_readScore_39 (by decide) ⟨by decide, by decide⟩ (by decide)) ?_
      have F44 : am_fr h h52 t (t + 7) := ((am_fr.rf.tr (((am_fr.st e3 (by omega) (by omega)).tr (am_fr.st e19 (by omega) (by omega))).tr (am_fr.st e35 (by omega) (by omega)))).tr Fh52)
      have z44 := F44.1
      have z44a : h52.2.1 = h.2.1 := by rw [z44]
      have e00 : ((([] : GL).length : Nat) : Int) = 0 := rfl
      refine q_blk (lv2 := [(0, vr t)]) (st2 := [vr t]) kX6_readScore_44 rfl ?_
      refine q_gr eX6_readScore_45 fl_RX6_54 (Or.inl ⟨_, rfl⟩) g530 rfl ?_
      refine q_blk (lv2 := [(0, vr t)]) (st2 := [vr t, vr b]) kX6_readScore_48 rfl ?_
      refine q_gr eX6_readScore_49 fl_RX6_21 (Or.inr ⟨_, rfl⟩) g530 rfl ?_
      refine q_blk (lv2 := [(0, vr t)]) (st2 := [vr t, vr (t + 6), vr b]) kX6_readScore_52 rfl ?_
      refine q_gi eX6_readScore_53 fl_RX6_37 (Or.inl rfl) g530 (z := (Lh52.length : Int)) rfl ?_
      refine AQ.of (AS.if_lt_f eX6_readScore_56 (by first | assumption | exact ⟨by omega, by omega⟩) (by omega) (by decide)) ?_
      refine q_blk (lv2 := [(0, vr t)]) (st2 := [vr t, vr (t + 6), vr b]) kX6_readScore_59 rfl ?_
      refine q_gi eX6_readScore_60 fl_RX6_37 (Or.inl rfl) g530 (z := (Lh52.length : Int)) rfl ?_
      refine q_goto (tgt := 67) eX6_readScore_63 (by decide) ?_
      refine AQ.callSr (av := [vr (t + 6), vi (Lh52.length : Int)]) (st := [vr b]) (c_XA_copyOf g534 (by omega) (m := (Lh52.length : Int)) (by omega) (by omega)) lk_RX6_218 (by decide) rfl rfl (Nat.le_of_ble_eq_true rfl) eX6_readScore_67 (fun z61 h63 e62 => ?_)
      obtain ⟨zh63, sh63, ⟨gh63, nh63, ch63⟩, Fh63⟩ := e62
      have z45 : z61 = h.2.1 := zh63.trans (by rw [z44])
      have n45 : h63.1 z61 = some (100, (Lh52.length : Int), gh63, am_N) := by rw [zh63]; exact nh63
      have F45 : ∀ q, q ≠ z61 → h63.1 q = _ := fun q hq => Fh63 q (by rw [← zh63]; exact hq)
      have s45 := sh63
      rw [z44] at s45
      have k64 := (F45 b (by omega)).trans k54
      have k65 := (F45 (b + 1) (by omega)).trans k56
      have k66 := (F45 (b + 2) (by omega)).trans k57
      have k67 := (F45 (b + 3) (by omega)).trans k58
      have k68 := (F45 (b + 4) (by omega)).trans k59
      have k69 := (F45 (b + 5) (by omega)).trans k60
      have k70 := (F45 t (by omega)).trans g530
      have k71 := (F45 (t + 3) (by omega)).trans g531
      have k72 := (F45 (t + 4) (by omega)).trans g532
      have k73 := (F45 (t + 5) (by omega)).trans g533
      have k74 := (F45 (t + 6) (by omega)).trans g534
      have k75 := (F45 j (by omega)).trans g535
      have B45 := BD.keptn k55 F45 (by omega) (by omega)
      have L45 := LJ.keptn g53L F45 (by omega)
      refine q_pr eX6_readScore_70 fl_RX6_224 (fun q hq => by cases hq; exact Or.inl rfl) (Or.inr ⟨_, rfl⟩) k64 (Nat.le_of_ble_eq_true rfl) (l2 := [some (b + 1), some (b + 2), some (b + 3), some (b + 4), some (b + 5), none, none, none, none, some z61]) rfl (fun h76 e77 => ?_)
      have k78 := am_at e77
      have k79 := (am_ne e77 (b + 1) (by omega)).trans k65
      have k80 := (am_ne e77 (b + 2) (by omega)).trans k66
      have k81 := (am_ne e77 (b + 3) (by omega)).trans k67
      have k82 := (am_ne e77 (b + 4) (by omega)).trans k68
      have k83 := (am_ne e77 (b + 5) (by omega)).trans k69
      have k84 := (am_ne e77 t (by omega)).trans k70
      have k85 := (am_ne e77 (t + 3) (by omega)).trans k71
      have k86 := (am_ne e77 (t + 4) (by omega)).trans k72
      have k87 := (am_ne e77 (t + 5) (by omega)).trans k73
      have k88 := (am_ne e77 (t + 6) (by omega)).trans k74
      have k89 := (am_ne e77 j (by omega)).trans k75
      have k90 := L45.kept (lo := b) (hi := b + 1) (am_fr.st e77 (by omega) (by omega)) (by omega)
      have k91 := (am_ne e77 z61 (by omega)).trans n45
      have F46 : am_fr _ h76 b (b + 1) := am_fr.st e77 (by omega) (by omega)
      have B46 := BD.sc B45 (by omega) F46 k78
      have G46 : am_g2 h h76 t b := ⟨by rw [F46.1, s45]; simp <;> omega, fun q q0 q1 q2 => (F46.2 q (by omega)).trans ((F45 q (by omega)).trans (F44.2 q q1))⟩
      refine q_blk (lv2 := [(0, vr t)]) (st2 := [vi 59, vr t]) kX6_readScore_73 rfl ?_
      refine AQ.callVi (av := [vi 59]) (st := []) (c_X6_take ⟨_, k84, k85, k86, k87, k88, cj, k89, k90⟩ (by omega) (by omega) kr vq (k := 59) (by omega) (by omega)) lk_RX6_166 (by decide) rfl rfl ⟨_, _, _, k84⟩ ⟨_, rfl, rfl⟩ (Nat.le_of_ble_eq_true rfl) eX6_readScore_76 (fun z92 h94 e93 => ?_)
      rcases e93 with ⟨⟨rfl, qh94, Xh94⟩ | ⟨rfl, qh94, Xh94⟩, Fh94⟩
      · skip
        obtain ⟨g95t, g950, g951, g952, g953, g954, g95j, g955, g95L⟩ := id Xh94
        have k96 := (Fh94.2 z61 (by omega)).trans k91
        have k97 := B46.kept Fh94 (by omega) (by omega)
        have nh94 : hh52e ≠ n := fun e9 => by rw [e9] at qh94; omega
        exact q_rz rfl eX6_readScore_79 (by decide) ⟨1, rfl, Or.inl ⟨rfl, Lh52, _, by unfold rW; rw [if_pos (by omega)]; exact (rB_r qh52 _).trans (rB_r (show rT kd st 59 hh52e = .inr () by unfold rT; rw [if_pos qh94]) _), ⟨by omega, by omega⟩, ⟨_, _, ⟨_, g950, g951, g952, g953, g954, cj, g955, g95L⟩⟩, by rw [← z45]; exact k97, ⟨100, gh63, am_N, Or.inl rfl, by rw [← z45]; exact k96, by omega, fun k o hk => by have hk2 := (List.getElem?_eq_some_iff.mp hk).1; rw [ch63 k (by omega) (by omega)]; exact Ch52 k o hk⟩, congrArg Prod.fst ((show am_fr _ _ t (t + 7) from (am_fr.rf.tr Fh94)).1.trans (F46.1.trans s45))⟩, am_g2.tr5 G46 (show am_fr _ _ t (t + 7) from (am_fr.rf.tr Fh94))⟩
      · skip
        obtain ⟨g98t, g980, g981, g982, g983, g984, g98j, g985, g98L⟩ := id Xh94
        have k99 := (Fh94.2 z61 (by omega)).trans k91
        have k100 := B46.kept Fh94 (by omega) (by omega)
        exact q_rz rfl eX6_readScore_79 (by decide) ⟨0, rfl, Or.inr ⟨rfl, _, _, by unfold rW; rw [if_pos (by omega)]; exact (rB_r qh52 _).trans (rB_l (show rT kd st 59 hh52e = .inl (-2, st hh52e) by unfold rT; rw [if_neg qh94]) _), ⟨_, _, _, _, _, _, ⟨_, g980, g981, g982, g983, g984, cj, g985, g98L⟩, by omega, by omega⟩, BD.ba k100⟩, am_g2.tr5 G46 (show am_fr _ _ t (t + 7) from (am_fr.rf.tr Fh94))⟩
    · skip
      refine AQ.of (AS.if_ne_f eX6_readScore_39 ⟨by decide, by decide⟩ (by decide) (by decide)) ?_
      refine q_blk (lv2 := [(0, vr t)]) (st2 := [vi 0]) kX6_readScore_42 rfl ?_
      exact q_rz rfl eX6_readScore_43 (by decide) ⟨0, rfl, Or.inr ⟨rfl, _, _, by unfold rW; rw [if_pos (by omega)]; exact rB_l qh52 _, Xh52, BD.ba (hB.kept ((am_fr.rf.tr (((am_fr.st e3 (by omega) (by omega)).tr (am_fr.st e19 (by omega) (by omega))).tr (am_fr.st e35 (by omega) (by omega)))).tr Fh52) (by omega) (by omega))⟩, am_fr.g ((am_fr.rf.tr (((am_fr.st e3 (by omega) (by omega)).tr (am_fr.st e19 (by omega) (by omega))).tr (am_fr.st e35 (by omega) (by omega)))).tr Fh52)⟩
  · skip
    refine q_blk (lv2 := [(0, vr t)]) (st2 := [vi (-2), vr t]) kX6_readScore_7 rfl ?_
    refine AQ.callVi (av := [vi (-2)]) (st := []) (c_X6_fail (e := (-2)) ⟨_, c0, c1, c2, c3, c4, cj, c5, cL⟩ (by omega) (by omega)) lk_RX6_83 (by decide) rfl rfl ⟨_, _, _, c0⟩ ⟨_, rfl, rfl⟩ (Nat.le_of_ble_eq_true rfl) eX6_readScore_10 (fun z101 h103 e102 => ?_)
    obtain ⟨z1010, Xh103, Fh103⟩ := e102
    subst z1010
    obtain ⟨g104t, g1040, g1041, g1042, g1043, g1044, g104j, g1045, g104L⟩ := id Xh103
    have k105 := (Fh103.2 b (by omega)).trans b0
    have k106 := hB.kept Fh103 (by omega) (by omega)
    have k107 := (Fh103.2 (b + 1) (by omega)).trans b1
    have k108 := (Fh103.2 (b + 2) (by omega)).trans b2
    have k109 := (Fh103.2 (b + 3) (by omega)).trans b3
    have k110 := (Fh103.2 (b + 4) (by omega)).trans b4
    have k111 := (Fh103.2 (b + 5) (by omega)).trans b5
    exact q_rz rfl eX6_readScore_13 (by decide) ⟨0, rfl, Or.inr ⟨rfl, _, _, by unfold rW; rw [if_neg (by omega)], ⟨_, _, _, _, _, _, ⟨_, g1040, g1041, g1042, g1043, g1044, cj, g1045, g104L⟩, by omega, by omega⟩, BD.ba (hB.kept (am_fr.rf.tr Fh103) (by omega) (by omega))⟩, am_fr.g (am_fr.rf.tr Fh103)⟩
