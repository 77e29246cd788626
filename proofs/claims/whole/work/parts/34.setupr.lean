/-! CornerClaims$Setup: stones and polygons. -/
/-- changes of the reader, of its board, of the line only -/
def am_f3 (h h1 : AH) (t b l : Nat) : Prop := h1.2 = h.2 ∧ ∀ q, ¬ (t ≤ q ∧ q < t + 5) → ¬ (b ≤ q ∧ q < b + 24) → q ≠ l → h1.1 q = h.1 q
theorem am_f3.rf {h : AH} {t b l : Nat} : am_f3 h h t b l := ⟨rfl, fun _ _ _ _ => rfl⟩
theorem am_f3.tr {h h1 h2 : AH} {t b l : Nat} (f : am_f3 h h1 t b l) (g : am_f3 h1 h2 t b l) : am_f3 h h2 t b l := ⟨g.1.trans f.1, fun q a b c => (g.2 q a b c).trans (f.2 q a b c)⟩
theorem am_fr.t {h h1 : AH} {t b l : Nat} (f : am_fr h h1 t (t + 5)) : am_f3 h h1 t b l := ⟨f.1, fun q a _ _ => f.2 q a⟩
theorem am_fr.b {h h1 : AH} {t b l : Nat} (f : am_fr h h1 b (b + 24)) : am_f3 h h1 t b l := ⟨f.1, fun q _ a _ => f.2 q a⟩
theorem am_fr.l {h h1 : AH} {t b l : Nat} (f : am_fr h h1 l (l + 1)) : am_f3 h h1 t b l := ⟨f.1, fun q _ _ a => f.2 q (fun z => a (by omega))⟩
theorem am_f3.mid {h h1 : AH} {t b l : Nat} (f : am_f3 h h1 t b l) : ∃ h2 h3, am_fr h h2 t (t + 5) ∧ am_fr h2 h3 b (b + 24) ∧ am_fr h3 h1 l (l + 1) := by
  refine ⟨(fun q => if t ≤ q ∧ q < t + 5 then h1.1 q else h.1 q, h.2), (fun q => if (t ≤ q ∧ q < t + 5) ∨ (b ≤ q ∧ q < b + 24) then h1.1 q else h.1 q, h.2), ⟨rfl, fun q a => ?_⟩, ⟨rfl, fun q a => ?_⟩, ⟨f.1, fun q a => ?_⟩⟩
  · exact if_neg a
  · show (if (t ≤ q ∧ q < t + 5) ∨ (b ≤ q ∧ q < b + 24) then h1.1 q else h.1 q) = if t ≤ q ∧ q < t + 5 then h1.1 q else h.1 q
    by_cases c : t ≤ q ∧ q < t + 5
    · rw [if_pos (Or.inl c), if_pos c]
    · rw [if_neg (fun z => z.elim c a), if_neg c]
  · show h1.1 q = if (t ≤ q ∧ q < t + 5) ∨ (b ≤ q ∧ q < b + 24) then h1.1 q else h.1 q
    by_cases c : (t ≤ q ∧ q < t + 5) ∨ (b ≤ q ∧ q < b + 24)
    · rw [if_pos c]
    · rw [if_neg c]
      exact f.2 q (fun z => c (Or.inl z)) (fun z => c (Or.inr z)) (fun z => a (by omega))
/-- by cases, decidable or not -/
noncomputable def gm_ite {A : Type} (P : Prop) (a b : A) : A := @ite A P (Classical.propDecidable P) a b
theorem gm_ite_t {A : Type} {P : Prop} {a b : A} (h : P) : gm_ite P a b = a := @if_pos P (Classical.propDecidable P) h A a b
theorem gm_ite_f {A : Type} {P : Prop} {a b : A} (h : ¬ P) : gm_ite P a b = b := @if_neg P (Classical.propDecidable P) h A a b
/-- a stone is read: the board with it -/
noncomputable def rS (kd st vl : Int → Int) (D : Int → Int) (he : Int) : (Int × Int) ⊕ (Int → Int) := if D 2 < 20 then rB (rP kd st vl (D 0) (D 1) (he + 1)) (fun q => gm_ite (gm_oc D q.1 q.2) (.inl (-4, st (he + 1 + 1))) (rB (rN kd st vl 1 99 (he + 1 + 1 + 1)) fun v => rB (rT kd st 59 (he + 1 + 1 + 1 + 1)) fun _ => .inr (gm_addS D q.1 q.2 v))) else .inl (-5, st he)
theorem rP_r {kd st vl : Int → Int} {w hh he x y : Int} (h : rP kd st vl w hh he = .inr (x, y)) : kd he = 2 ∧ kd (he + 1) = 2 ∧ x = vl he ∧ y = vl (he + 1) ∧ (0 ≤ x ∧ x ≤ w) ∧ (0 ≤ y ∧ y ≤ hh) := by
  unfold rP rB at h
  split at h
  · cases h
  · rename_i x' hx
    split at h
    · cases h
    · rename_i y' hy
      cases h
      have a := rN_r hx
      have b := rN_r hy
      exact ⟨a.1, b.1, a.2.1, b.2.1, a.2.2, b.2.2⟩

set_option maxHeartbeats 1000000 in
theorem c_X6_readStone {w : am_w} {h : AH} {t u b j : Nat} {kd st vl : Int → Int} {he nu px cl hs er ea : Int} {cd : Int → Int} (hS : SU h t u b j kd st vl he nu px cl hs er ea cd) {l : Nat} {n : Int} (n0 : n ≤ 800) (kn : kd n = 0) (he0 : 0 ≤ he) (he1 : he ≤ n) (kr : ∀ i, 0 ≤ i → i < 801 → -5 ≤ kd i ∧ kd i ≤ 100) (vq : ∀ i, 0 ≤ i → i < 801 → 0 ≤ vl i ∧ vl i ≤ 10000) (cl0 : 0 ≤ cl) (cl1 : cl ≤ 800) {D cm : Int → Int} {sc : Nat} (hB : BD h b D cm sc) (hD : VD D) (hd : t + 5 ≤ b ∨ b + 24 ≤ t) (hk : kd he ≠ 0)  : AE w m_X6_readStone 5 [vr t] h (am_int (fun z h1 => ((z = 1 ∧ ∃ D', rS kd st vl D he = .inr D' ∧ (∃ nu' px', SU h1 t u b j kd st vl (he + 1 + 1 + 1 + 1 + 1) nu' px' cl hs er ea cd) ∧ BD h1 b D' cm sc) ∨ (z = 0 ∧ ∃ e a, rS kd st vl D he = .inl (e, a) ∧ SF h1 t u b j kd st vl e a ∧ BA h1 b)) ∧ am_f3 h h1 t b l)) := by
  refine AE.of wf_X6_readStone (Nat.le_of_ble_eq_true rfl) (am_ok_z (fun z h1 q => by rcases q.1 with q | q; exact Or.inr q.1; exact Or.inl q.1)) ?_
  obtain ⟨tc, c0, c1, c2, c3, c4⟩ := id hS
  obtain ⟨⟨sx, sy, sv, ⟨b0, b1, b2, b3, b4, b5⟩, hst⟩, hall, hsh⟩ := id hB
  have d0 := hD.1
  have d1 := hD.2.1
  have d2 := hD.2.2.1
  have d3 := hD.2.2.2.1
  have hen : he ≠ n := fun e9 => by rw [e9] at hk; omega
  refine q_blk (lv2 := [(0, vr t)]) (st2 := [vr t]) kX6_readStone_0 rfl ?_
  refine q_gr eX6_readStone_1 fl_RX6_54 (Or.inl ⟨_, rfl⟩) c0 rfl ?_
  refine q_gi eX6_readStone_4 fl_RX6_173 (Or.inl rfl) b0 (z := (D 2)) rfl ?_
  refine q_blk (lv2 := [(0, vr t)]) (st2 := [vi 20, vi (D 2)]) kX6_readStone_7 rfl ?_
  refine AQ.ic_lt (tgt := 19) eX6_readStone_9 (by decide) (by first | assumption | exact ⟨by omega, by omega⟩) ⟨by decide, by decide⟩ (fun br1 => ?_) (fun br1 => ?_)
  · skip
    refine q_blk (lv2 := [(0, vr t)]) (st2 := [vr t, vr t]) kX6_readStone_19 rfl ?_
    refine q_gi eX6_readStone_21 fl_RX6_28 (Or.inl rfl) c0 (z := he) rfl ?_
    refine q_blk (lv2 := [(0, vr t)]) (st2 := [vi (he + 1), vr t]) kX6_readStone_24 rfl ?_
    refine q_pi eX6_readStone_26 fl_RX6_28 (fun q hq => by cases hq; exact Or.inl rfl) (Or.inl rfl) c0 (Nat.le_of_ble_eq_true rfl) (l2 := [0, 0, 0, 0, 0, 0, 0, tc, (he + 1), nu, px, cl, hs, er, ea]) rfl (fun h2 e3 => ?_)
    have k4 := (am_ne e3 b (by omega)).trans b0
    have k5 := hB.kept (lo := t) (hi := t + 1) (am_fr.st e3 (by omega) (by omega)) (by omega) (by omega)
    have k6 := (am_ne e3 (b + 1) (by omega)).trans b1
    have k7 := (am_ne e3 (b + 2) (by omega)).trans b2
    have k8 := (am_ne e3 (b + 3) (by omega)).trans b3
    have k9 := (am_ne e3 (b + 4) (by omega)).trans b4
    have k10 := (am_ne e3 (b + 5) (by omega)).trans b5
    have k11 := am_at e3
    have k12 := (am_ne e3 (t + 1) (by omega)).trans c1
    have k13 := (am_ne e3 (t + 2) (by omega)).trans c2
    have k14 := (am_ne e3 (t + 3) (by omega)).trans c3
    have k15 := (am_ne e3 (t + 4) (by omega)).trans c4
    refine q_blk (lv2 := [(0, vr t)]) (st2 := [vr t]) kX6_readStone_29 rfl ?_
    refine AQ.callVi (av := []) (st := []) (c_X6_seePoint ⟨_, k11, k12, k13, k14, k15⟩ n0 kn (by omega) (by omega) kr vq (by omega) (by omega) k5 hD (by omega)) lk_RX6_176 (by decide) rfl rfl ⟨_, _, _, k11⟩ ⟨_, rfl, rfl⟩ (Nat.le_of_ble_eq_true rfl) eX6_readStone_30 (fun z16 h18 e17 => ?_)
    rcases e17 with ⟨⟨rfl, xh18, yh18, qh18, Xh18⟩ | ⟨rfl, eh18, ah18, qh18, Xh18⟩, Fh18⟩
    · skip
      obtain ⟨g19t, g190, g191, g192, g193, g194⟩ := id Xh18
      have k20 := (Fh18.2 b (by omega)).trans k4
      have k21 := k5.kept Fh18 (by omega) (by omega)
      have k22 := (Fh18.2 (b + 1) (by omega)).trans k6
      have k23 := (Fh18.2 (b + 2) (by omega)).trans k7
      have k24 := (Fh18.2 (b + 3) (by omega)).trans k8
      have k25 := (Fh18.2 (b + 4) (by omega)).trans k9
      have k26 := (Fh18.2 (b + 5) (by omega)).trans k10
      have rh18 := rP_r qh18
      have nh18 : (he + 1) + 1 ≠ n := fun e9 => by rw [e9] at rh18; omega
      have mh18 : (he + 1) ≠ n := fun e9 => by rw [e9] at rh18; omega
      have h_xh18 : am_c xh18 := by unfold am_c; omega
      have h_yh18 : am_c yh18 := by unfold am_c; omega
      refine AQ.of (AS.if_ne_t (tgt := 38) eX6_readStone_33 (by decide) ⟨by decide, by decide⟩ (by decide)) ?_
      refine q_blk (lv2 := [(0, vr t)]) (st2 := [vr t]) kX6_readStone_38 rfl ?_
      refine q_gi eX6_readStone_39 fl_RX6_31 (Or.inl rfl) g190 (z := yh18) rfl ?_
      refine q_blk (lv2 := [(0, vr t), (1, vi yh18)]) (st2 := [vr t]) kX6_readStone_42 rfl ?_
      refine q_gr eX6_readStone_44 fl_RX6_54 (Or.inl ⟨_, rfl⟩) g190 rfl ?_
      refine q_blk (lv2 := [(0, vr t), (1, vi yh18)]) (st2 := [vr t, vr b]) kX6_readStone_47 rfl ?_
      refine q_gi eX6_readStone_48 fl_RX6_34 (Or.inl rfl) g190 (z := xh18) rfl ?_
      refine q_blk (lv2 := [(0, vr t), (1, vi yh18)]) (st2 := [vi yh18, vi xh18, vr b]) kX6_readStone_51 rfl ?_
      refine q_Vi (av := [vi xh18, vi yh18]) (st := []) (c_X0_isOccupied k21 hD h_xh18 h_yh18) lk_RX6_179 (by decide) rfl rfl k21.ob ⟨_, rfl, rfl⟩ (Nat.le_of_ble_eq_true rfl) eX6_readStone_52 (fun z27 e28 => ?_)
      rcases e28 with ⟨rfl, e28⟩ | ⟨rfl, e28⟩
      · skip
        refine AQ.of (AS.if_eq_f eX6_readStone_55 ⟨by decide, by decide⟩ (by decide) (by decide)) ?_
        refine q_blk (lv2 := [(0, vr t), (1, vi yh18)]) (st2 := [vi (-4), vr t]) kX6_readStone_58 rfl ?_
        refine AQ.callVi (av := [vi (-4)]) (st := []) (c_X6_fail (e := (-4)) ⟨_, g190, g191, g192, g193, g194⟩ (by omega) (by omega)) lk_RX6_83 (by decide) rfl rfl ⟨_, _, _, g190⟩ ⟨_, rfl, rfl⟩ (Nat.le_of_ble_eq_true rfl) eX6_readStone_61 (fun z29 h31 e30 => ?_)
        obtain ⟨z290, Xh31, Fh31⟩ := e30
        subst z290
        obtain ⟨g32t, g320, g321, g322, g323, g324⟩ := id Xh31
        have k33 := (Fh31.2 b (by omega)).trans k20
        have k34 := k21.kept Fh31 (by omega) (by omega)
        have k35 := (Fh31.2 (b + 1) (by omega)).trans k22
        have k36 := (Fh31.2 (b + 2) (by omega)).trans k23
        have k37 := (Fh31.2 (b + 3) (by omega)).trans k24
        have k38 := (Fh31.2 (b + 4) (by omega)).trans k25
        have k39 := (Fh31.2 (b + 5) (by omega)).trans k26
        exact q_rz rfl eX6_readStone_64 (by decide) ⟨0, rfl, Or.inr ⟨rfl, _, _, by unfold rS; rw [if_pos (by omega)]; exact (rB_r qh18 _).trans (gm_ite_t e28), ⟨_, _, _, _, _, _, ⟨_, g320, g321, g322, g323, g324⟩, by omega, by omega⟩, BD.ba k34⟩, (((am_f3.rf.tr (am_fr.t (am_fr.st e3 (by omega) (by omega)))).tr (am_fr.t Fh18)).tr (am_fr.t Fh31))⟩
      · skip
        refine AQ.of (AS.if_eq_t (tgt := 65) eX6_readStone_55 (by decide) ⟨by decide, by decide⟩ (by decide)) ?_
        refine q_blk (lv2 := [(0, vr t), (1, vi yh18)]) (st2 := [vr t, vr t]) kX6_readStone_65 rfl ?_
        refine q_gi eX6_readStone_67 fl_RX6_28 (Or.inl rfl) g190 (z := ((he + 1) + 1)) rfl ?_
        refine q_blk (lv2 := [(0, vr t), (1, vi yh18)]) (st2 := [vi (((he + 1) + 1) + 1), vr t]) kX6_readStone_70 rfl ?_
        refine q_pi eX6_readStone_72 fl_RX6_28 (fun q hq => by cases hq; exact Or.inl rfl) (Or.inl rfl) g190 (Nat.le_of_ble_eq_true rfl) (l2 := [0, 0, 0, 0, 0, 0, 0, g19t, (((he + 1) + 1) + 1), yh18, xh18, cl, hs, er, ea]) rfl (fun h40 e41 => ?_)
        have k42 := (am_ne e41 b (by omega)).trans k20
        have k43 := k21.kept (lo := t) (hi := t + 1) (am_fr.st e41 (by omega) (by omega)) (by omega) (by omega)
        have k44 := (am_ne e41 (b + 1) (by omega)).trans k22
        have k45 := (am_ne e41 (b + 2) (by omega)).trans k23
        have k46 := (am_ne e41 (b + 3) (by omega)).trans k24
        have k47 := (am_ne e41 (b + 4) (by omega)).trans k25
        have k48 := (am_ne e41 (b + 5) (by omega)).trans k26
        have k49 := am_at e41
        have k50 := (am_ne e41 (t + 1) (by omega)).trans g191
        have k51 := (am_ne e41 (t + 2) (by omega)).trans g192
        have k52 := (am_ne e41 (t + 3) (by omega)).trans g193
        have k53 := (am_ne e41 (t + 4) (by omega)).trans g194
        refine q_blk (lv2 := [(0, vr t), (1, vi yh18)]) (st2 := [vi 99, vi 1, vr t]) kX6_readStone_75 rfl ?_
        refine AQ.callVi (av := [vi 1, vi 99]) (st := []) (c_X6_takeNumber ⟨_, k49, k50, k51, k52, k53⟩ (by omega) (by omega) kr vq (by omega) (by omega) (lo := 1) (hi := 99) (by omega) (by omega) (by omega) (by omega)) lk_RX6_160 (by decide) rfl rfl ⟨_, _, _, k49⟩ ⟨_, rfl, rfl⟩ (Nat.le_of_ble_eq_true rfl) eX6_readStone_79 (fun z54 h56 e55 => ?_)
        rcases e55 with ⟨⟨rfl, qh56, Xh56⟩ | ⟨rfl, eh56, ah56, qh56, Xh56⟩, Fh56⟩
        · skip
          obtain ⟨g57t, g570, g571, g572, g573, g574⟩ := id Xh56
          have k58 := (Fh56.2 b (by omega)).trans k42
          have k59 := k43.kept Fh56 (by omega) (by omega)
          have k60 := (Fh56.2 (b + 1) (by omega)).trans k44
          have k61 := (Fh56.2 (b + 2) (by omega)).trans k45
          have k62 := (Fh56.2 (b + 3) (by omega)).trans k46
          have k63 := (Fh56.2 (b + 4) (by omega)).trans k47
          have k64 := (Fh56.2 (b + 5) (by omega)).trans k48
          have rh56 := rN_r qh56
          have nh56 : (((he + 1) + 1) + 1) ≠ n := fun e9 => by rw [e9] at rh56; omega
          refine AQ.of (AS.if_ne_t (tgt := 87) eX6_readStone_82 (by decide) ⟨by decide, by decide⟩ (by decide)) ?_
          refine q_blk (lv2 := [(0, vr t), (1, vi yh18)]) (st2 := [vr t]) kX6_readStone_87 rfl ?_
          refine q_gr eX6_readStone_88 fl_RX6_54 (Or.inl ⟨_, rfl⟩) g570 rfl ?_
          refine q_blk (lv2 := [(0, vr t), (1, vi yh18)]) (st2 := [vr t, vr b]) kX6_readStone_91 rfl ?_
          refine q_gi eX6_readStone_92 fl_RX6_34 (Or.inl rfl) g570 (z := xh18) rfl ?_
          refine q_blk (lv2 := [(0, vr t), (1, vi yh18)]) (st2 := [vr t, vi yh18, vi xh18, vr b]) kX6_readStone_95 rfl ?_
          refine q_gi eX6_readStone_97 fl_RX6_31 (Or.inl rfl) g570 (z := (vl (((he + 1) + 1) + 1))) rfl ?_
          refine AQ.callVv (av := [vi xh18, vi yh18, vi (vl (((he + 1) + 1) + 1))]) (st := []) (c_X0_addStone k59 hD (by omega) (x := xh18) (y := yh18) (v := (vl (((he + 1) + 1) + 1)))) lk_RX6_182 (by decide) rfl rfl k59.ob ⟨_, rfl, rfl⟩ (Nat.le_of_ble_eq_true rfl) eX6_readStone_100 (fun h67 e66 => ?_)
          obtain ⟨Xh67, Fh67⟩ := e66
          have k68 := (Fh67.2 t (by omega)).trans g570
          have k69 := (Fh67.2 (t + 1) (by omega)).trans g571
          have k70 := (Fh67.2 (t + 2) (by omega)).trans g572
          have k71 := (Fh67.2 (t + 3) (by omega)).trans g573
          have k72 := (Fh67.2 (t + 4) (by omega)).trans g574
          have Vh67 := gm_addS_vd hD (x := xh18) (y := yh18) (v := (vl (((he + 1) + 1) + 1))) (by omega) (by omega) (by omega) (by omega)
          have Wh67 := Vh67.2.2.2.1
          obtain ⟨⟨u0, u1, u2, ⟨y0, y1, y2, y3, y4, y5⟩, ust⟩, uall, ush⟩ := id Xh67
          refine q_blk (lv2 := [(0, vr t), (1, vi yh18)]) (st2 := [vi 59, vr t]) kX6_readStone_103 rfl ?_
          refine AQ.callVi (av := [vi 59]) (st := []) (c_X6_take ⟨_, k68, k69, k70, k71, k72⟩ (by omega) (by omega) kr vq (k := 59) (by omega) (by omega)) lk_RX6_166 (by decide) rfl rfl ⟨_, _, _, k68⟩ ⟨_, rfl, rfl⟩ (Nat.le_of_ble_eq_true rfl) eX6_readStone_106 (fun z73 h75 e74 => ?_)
          rcases e74 with ⟨⟨rfl, qh75, Xh75⟩ | ⟨rfl, qh75, Xh75⟩, Fh75⟩
          · skip
            obtain ⟨g76t, g760, g761, g762, g763, g764⟩ := id Xh75
            have k77 := (Fh75.2 b (by omega)).trans y0
            have k78 := Xh67.kept Fh75 (by omega) (by omega)
            have k79 := (Fh75.2 (b + 1) (by omega)).trans y1
            have k80 := (Fh75.2 (b + 2) (by omega)).trans y2
            have k81 := (Fh75.2 (b + 3) (by omega)).trans y3
            have k82 := (Fh75.2 (b + 4) (by omega)).trans y4
            have k83 := (Fh75.2 (b + 5) (by omega)).trans y5
            have nh75 : ((((he + 1) + 1) + 1) + 1) ≠ n := fun e9 => by rw [e9] at qh75; omega
            exact q_rz rfl eX6_readStone_109 (by decide) ⟨1, rfl, Or.inl ⟨rfl, _, by unfold rS; rw [if_pos (by omega)]; exact (rB_r qh18 _).trans ((gm_ite_f e28).trans ((rB_r qh56 _).trans (rB_r (show rT kd st 59 ((((he + 1) + 1) + 1) + 1) = .inr () by unfold rT; rw [if_pos qh75]) _))), ⟨_, _, ⟨_, g760, g761, g762, g763, g764⟩⟩, k78⟩, ((((((am_f3.rf.tr (am_fr.t (am_fr.st e3 (by omega) (by omega)))).tr (am_fr.t Fh18)).tr (am_fr.t (am_fr.st e41 (by omega) (by omega)))).tr (am_fr.t Fh56)).tr (am_fr.b Fh67)).tr (am_fr.t Fh75))⟩
          · skip
            obtain ⟨g84t, g840, g841, g842, g843, g844⟩ := id Xh75
            have k85 := (Fh75.2 b (by omega)).trans y0
            have k86 := Xh67.kept Fh75 (by omega) (by omega)
            have k87 := (Fh75.2 (b + 1) (by omega)).trans y1
            have k88 := (Fh75.2 (b + 2) (by omega)).trans y2
            have k89 := (Fh75.2 (b + 3) (by omega)).trans y3
            have k90 := (Fh75.2 (b + 4) (by omega)).trans y4
            have k91 := (Fh75.2 (b + 5) (by omega)).trans y5
            exact q_rz rfl eX6_readStone_109 (by decide) ⟨0, rfl, Or.inr ⟨rfl, _, _, by unfold rS; rw [if_pos (by omega)]; exact (rB_r qh18 _).trans ((gm_ite_f e28).trans ((rB_r qh56 _).trans (rB_l (show rT kd st 59 ((((he + 1) + 1) + 1) + 1) = .inl (-2, st ((((he + 1) + 1) + 1) + 1)) by unfold rT; rw [if_neg qh75]) _))), ⟨_, _, _, _, _, _, ⟨_, g840, g841, g842, g843, g844⟩, by omega, by omega⟩, BD.ba k86⟩, ((((((am_f3.rf.tr (am_fr.t (am_fr.st e3 (by omega) (by omega)))).tr (am_fr.t Fh18)).tr (am_fr.t (am_fr.st e41 (by omega) (by omega)))).tr (am_fr.t Fh56)).tr (am_fr.b Fh67)).tr (am_fr.t Fh75))⟩
        · skip
          have k92 := k43.kept Fh56 (by omega) (by omega)
          refine AQ.of (AS.if_ne_f eX6_readStone_82 ⟨by decide, by decide⟩ (by decide) (by decide)) ?_
          refine q_blk (lv2 := [(0, vr t), (1, vi yh18)]) (st2 := [vi 0]) kX6_readStone_85 rfl ?_
          exact q_rz rfl eX6_readStone_86 (by decide) ⟨0, rfl, Or.inr ⟨rfl, _, _, by unfold rS; rw [if_pos (by omega)]; exact (rB_r qh18 _).trans ((gm_ite_f e28).trans (rB_l qh56 _)), Xh56, BD.ba k92⟩, ((((am_f3.rf.tr (am_fr.t (am_fr.st e3 (by omega) (by omega)))).tr (am_fr.t Fh18)).tr (am_fr.t (am_fr.st e41 (by omega) (by omega)))).tr (am_fr.t Fh56))⟩
    · skip
      have k93 := k5.kept Fh18 (by omega) (by omega)
      refine AQ.of (AS.if_ne_f eX6_readStone_33 ⟨by decide, by decide⟩ (by decide) (by decide)) ?_
      refine q_blk (lv2 := [(0, vr t)]) (st2 := [vi 0]) kX6_readStone_36 rfl ?_
      exact q_rz rfl eX6_readStone_37 (by decide) ⟨0, rfl, Or.inr ⟨rfl, _, _, by unfold rS; rw [if_pos (by omega)]; exact (rB_l qh18 _), Xh18, BD.ba k93⟩, ((am_f3.rf.tr (am_fr.t (am_fr.st e3 (by omega) (by omega)))).tr (am_fr.t Fh18))⟩
  · skip
    refine q_blk (lv2 := [(0, vr t)]) (st2 := [vi (-5), vr t]) kX6_readStone_12 rfl ?_
    refine AQ.callVi (av := [vi (-5)]) (st := []) (c_X6_fail (e := (-5)) ⟨_, c0, c1, c2, c3, c4⟩ (by omega) (by omega)) lk_RX6_83 (by decide) rfl rfl ⟨_, _, _, c0⟩ ⟨_, rfl, rfl⟩ (Nat.le_of_ble_eq_true rfl) eX6_readStone_15 (fun z94 h96 e95 => ?_)
    obtain ⟨z940, Xh96, Fh96⟩ := e95
    subst z940
    obtain ⟨g97t, g970, g971, g972, g973, g974⟩ := id Xh96
    have k98 := (Fh96.2 b (by omega)).trans b0
    have k99 := hB.kept Fh96 (by omega) (by omega)
    have k100 := (Fh96.2 (b + 1) (by omega)).trans b1
    have k101 := (Fh96.2 (b + 2) (by omega)).trans b2
    have k102 := (Fh96.2 (b + 3) (by omega)).trans b3
    have k103 := (Fh96.2 (b + 4) (by omega)).trans b4
    have k104 := (Fh96.2 (b + 5) (by omega)).trans b5
    exact q_rz rfl eX6_readStone_18 (by decide) ⟨0, rfl, Or.inr ⟨rfl, _, _, by unfold rS; rw [if_neg (by omega)], ⟨_, _, _, _, _, _, ⟨_, g970, g971, g972, g973, g974⟩, by omega, by omega⟩, BD.ba k99⟩, (am_f3.rf.tr (am_fr.t Fh96))⟩

theorem gm_lr_one {D : Int → Int} {lp lc l1 l2 ax ay bx by' z z' : Int} (h : gm_lr D lp lc l1 l2 ax ay bx by' z) (h' : gm_lr D lp lc l1 l2 ax ay bx by' z') : z = z' := by
  rcases h with ⟨a, e⟩ | ⟨a, ⟨c, e⟩ | ⟨c, e⟩⟩ <;> rcases h' with ⟨a', e'⟩ | ⟨a', ⟨c', e'⟩ | ⟨c', e'⟩⟩ <;> first | exact e.trans e'.symm | contradiction
theorem gm_rC_one {D : Int → Int} {p x y z z' : Int} (h : gm_rC D p x y z) (h' : gm_rC D p x y z') : z = z' := by
  rcases h with ⟨a, e⟩ | ⟨a, ⟨b, e⟩ | ⟨b, ⟨c, e⟩ | ⟨c, e⟩⟩⟩ <;> rcases h' with ⟨a', e'⟩ | ⟨a', ⟨b', e'⟩ | ⟨b', ⟨c', e'⟩ | ⟨c', e'⟩⟩⟩ <;> first | exact e.trans e'.symm | (exfalso; omega) | contradiction | exact gm_lr_one e e'
theorem gm_rL_one {D : Int → Int} {p z z' : Int} (h : gm_rL D p z) (h' : gm_rL D p z') : z = z' := by
  rcases h with ⟨a, e⟩ | ⟨a, ⟨b, e⟩ | ⟨b, e⟩⟩ <;> rcases h' with ⟨a', e'⟩ | ⟨a', ⟨b', e'⟩ | ⟨b', e'⟩⟩ <;> first | exact e.trans e'.symm | (exfalso; omega) | exact gm_lr_one e e'
theorem gm_rC_r {D : Int → Int} {p x y z : Int} (h : gm_rC D p x y z) : 0 ≤ z ∧ z ≤ 6 := by
  rcases h with ⟨a, e⟩ | ⟨a, ⟨b, e⟩ | ⟨b, ⟨c, e⟩ | ⟨c, e⟩⟩⟩
  · omega
  · omega
  · omega
  · have := gm_lr_r e; omega
theorem gm_rL_r {D : Int → Int} {p z : Int} (h : gm_rL D p z) : 0 ≤ z ∧ z ≤ 6 := by
  rcases h with ⟨a, e⟩ | ⟨a, ⟨b, e⟩ | ⟨b, e⟩⟩
  · omega
  · omega
  · have := gm_lr_r e; omega
theorem gm_rC_0 {D : Int → Int} {p x y : Int} (h : gm_rC D p x y 0) : pC D p = 0 ∧ pN D p < 12 ∧ ¬ gm_tk D x y := by
  rcases h with ⟨a, e⟩ | ⟨a, ⟨b, e⟩ | ⟨b, ⟨c, e⟩ | ⟨c, e⟩⟩⟩
  · omega
  · omega
  · omega
  · exact ⟨a, b, c⟩
theorem gm_rL_0 {D : Int → Int} {p : Int} (h : gm_rL D p 0) : pC D p = 0 ∧ 3 ≤ pN D p := by
  rcases h with ⟨a, e⟩ | ⟨a, ⟨b, e⟩ | ⟨b, e⟩⟩
  · omega
  · omega
  · exact ⟨a, b⟩
/-- a polygon with a corner more; closed -/
def gm_adC (D : Int → Int) (p x y : Int) : Int → Int := gm_setP D p (pN D p + 1) (pC D p) (gm_in (pN D p) x (pX D p)) (gm_in (pN D p) y (pY D p))
def gm_clP (D : Int → Int) (p : Int) : Int → Int := gm_setP D p (pN D p) 1 (pX D p) (pY D p)
theorem gm_adC_vd {D : Int → Int} (hD : VD D) {p x y : Int} (p0 : 0 ≤ p) (p1 : p < D 3) (hc : pC D p = 0) (hn : pN D p < 12) (hx : 0 ≤ x ∧ x ≤ D 0) (hy : 0 ≤ y ∧ y ≤ D 1) : VD (gm_adC D p x y) := by
  have h := hD.2.2.2.2.2 p p0 p1
  exact gm_setP_vd hD p0 (by omega) (Or.inl hc) (gm_in_vd hx hy (by omega) (by omega) h.2.2.2)
theorem gm_adC_ve {D : Int → Int} (hD : VD D) (hE : VE D) {p x y : Int} (p0 : 0 ≤ p) (p1 : p < D 3) (hn : pN D p < 12) (ht : ¬ gm_tk D x y) : VE (gm_adC D p x y) := by
  have h := hD.2.2.2.2.2 p p0 p1
  exact gm_setP_ve hD hE p0 (by omega) (gm_in_ve (by omega) (by omega) (fun k k0 k1 => by have := gm_tk_ne ht p0 p1 k0 k1; omega) (fun k m k0 km m1 => hE p k m p0 p1 k0 km m1))
theorem gm_clP_vd {D : Int → Int} (hD : VD D) {p : Int} (p0 : 0 ≤ p) (p1 : p < D 3) (hn : 3 ≤ pN D p) : VD (gm_clP D p) := by
  have h := hD.2.2.2.2.2 p p0 p1
  exact gm_setP_vd hD p0 (by omega) (Or.inr ⟨rfl, hn⟩) h.2.2.2
theorem gm_clP_ve {D : Int → Int} (hD : VD D) (hE : VE D) {p : Int} (p0 : 0 ≤ p) (p1 : p < D 3) : VE (gm_clP D p) := by
  have h := hD.2.2.2.2.2 p p0 p1
  exact gm_setP_ve hD hE p0 (by omega) (fun k m k0 km m1 => hE p k m p0 p1 k0 km m1)
/-- corners are read, as long as numbers are there -/
noncomputable def rK (kd st vl : Int → Int) (p : Int) : Nat → (Int → Int) → Int → (Int × Int) ⊕ ((Int → Int) × Int)
  | 0, D, he => .inr (D, he)
  | f + 1, D, he => if kd he = 2 then rB (rP kd st vl (D 0) (D 1) he) (fun q => gm_ite (gm_rC D p q.1 q.2 0) (rK kd st vl p f (gm_adC D p q.1 q.2) (he + 1 + 1)) (.inl (-4, st (he + 1)))) else .inr (D, he)
/-- a polygon is read -/
noncomputable def rG (kd st vl : Int → Int) (D : Int → Int) (he : Int) : (Int × Int) ⊕ ((Int → Int) × Int) := if D 3 < 6 then rB (rN kd st vl 0 3 (he + 1)) (fun o => rB (rP kd st vl (D 0) (D 1) (he + 1 + 1)) fun q => gm_ite (gm_oc D q.1 q.2) (.inl (-4, st (he + 1 + 1 + 1))) (rB (rK kd st vl (D 3) 800 (gm_stP D o q.1 q.2) (he + 1 + 1 + 1 + 1)) fun r => if kd r.2 = 59 then gm_ite (gm_rL r.1 (D 3) 0) (.inr (gm_clP r.1 (D 3), r.2 + 1)) (.inl (-4, st r.2)) else .inl (-2, st r.2))) else .inl (-5, st he)

theorem rK_end {kd st vl : Int → Int} {p : Int} {f : Nat} {D : Int → Int} {he : Int} (h : f = 0 ∨ kd he ≠ 2) : rK kd st vl p f D he = .inr (D, he) := by
  cases f with
  | zero => rfl
  | succ f => exact if_neg (by omega)
theorem rK_go {kd st vl : Int → Int} {p : Int} {f : Nat} {D : Int → Int} {he x y : Int} (hf : 0 < f) (hk : kd he = 2) (hq : rP kd st vl (D 0) (D 1) he = .inr (x, y)) (hr : gm_rC D p x y 0) : rK kd st vl p f D he = rK kd st vl p (f - 1) (gm_adC D p x y) (he + 1 + 1) := by
  cases f with
  | zero => omega
  | succ f => exact (if_pos hk).trans ((rB_r hq _).trans (gm_ite_t hr))
theorem rK_p {kd st vl : Int → Int} {p : Int} {f : Nat} {D : Int → Int} {he : Int} {e : Int × Int} (hf : 0 < f) (hk : kd he = 2) (hq : rP kd st vl (D 0) (D 1) he = .inl e) : rK kd st vl p f D he = .inl e := by
  cases f with
  | zero => omega
  | succ f => exact (if_pos hk).trans (rB_l hq _)
theorem rK_x {kd st vl : Int → Int} {p : Int} {f : Nat} {D : Int → Int} {he x y : Int} (hf : 0 < f) (hk : kd he = 2) (hq : rP kd st vl (D 0) (D 1) he = .inr (x, y)) (hr : ¬ gm_rC D p x y 0) : rK kd st vl p f D he = .inl (-4, st (he + 1)) := by
  cases f with
  | zero => omega
  | succ f => exact (if_pos hk).trans ((rB_r hq _).trans (gm_ite_f hr))

set_option maxHeartbeats 8000000 in
theorem c_X6_readPolygon {w : am_w} {h : AH} {t u b j : Nat} {kd st vl : Int → Int} {he nu px cl hs er ea : Int} {cd : Int → Int} (hS : SU h t u b j kd st vl he nu px cl hs er ea cd) {l : Nat} {n : Int} (n0 : n ≤ 800) (kn : kd n = 0) (he0 : 0 ≤ he) (he1 : he ≤ n) (kr : ∀ i, 0 ≤ i → i < 801 → -5 ≤ kd i ∧ kd i ≤ 100) (vq : ∀ i, 0 ≤ i → i < 801 → 0 ≤ vl i ∧ vl i ≤ 10000) (cl0 : 0 ≤ cl) (cl1 : cl ≤ 800) {D cm : Int → Int} {sc : Nat} (hB : BD h b D cm sc) (hD : VD D) (hd : t + 5 ≤ b ∨ b + 24 ≤ t) (hE : VE D) (hJ : JD h j b l) (hLJ : LJ h l) (hlj : l ≠ j) (hlb : l < b ∨ b + 24 ≤ l) (hlt : l < t ∨ t + 5 ≤ l) (hjt : j < t ∨ t + 5 ≤ j) (hjb : j < b ∨ b + 24 ≤ j) (hk : kd he ≠ 0)  : AE w m_X6_readPolygon 7 [vr t] h (am_int (fun z h1 => ((z = 1 ∧ ∃ D' he', rG kd st vl D he = .inr (D', he') ∧ (∃ nu' px', SU h1 t u b j kd st vl he' nu' px' cl hs er ea cd) ∧ BD h1 b D' cm sc) ∨ (z = 0 ∧ ∃ e a, rG kd st vl D he = .inl (e, a) ∧ SF h1 t u b j kd st vl e a ∧ BA h1 b)) ∧ JD h1 j b l ∧ LJ h1 l ∧ am_f3 h h1 t b l)) := by
  refine AE.of wf_X6_readPolygon (Nat.le_of_ble_eq_true rfl) (am_ok_z (fun z h1 q => by rcases q.1 with q | q; exact Or.inr q.1; exact Or.inl q.1)) ?_
  obtain ⟨tc, c0, c1, c2, c3, c4⟩ := id hS
  obtain ⟨⟨sx, sy, sv, ⟨b0, b1, b2, b3, b4, b5⟩, hst⟩, hall, hsh⟩ := id hB
  have d0 := hD.1
  have d1 := hD.2.1
  have d2 := hD.2.2.1
  have d3 := hD.2.2.2.1
  have hen : he ≠ n := fun e9 => by rw [e9] at hk; omega
  have hJ0 := hJ
  unfold JD at hJ0
  refine q_blk (lv2 := [(0, vr t)]) (st2 := [vr t]) kX6_readPolygon_0 rfl ?_
  refine q_gr eX6_readPolygon_1 fl_RX6_54 (Or.inl ⟨_, rfl⟩) c0 rfl ?_
  refine q_gi eX6_readPolygon_4 fl_RX6_185 (Or.inl rfl) b0 (z := (D 3)) rfl ?_
  refine q_blk (lv2 := [(0, vr t)]) (st2 := [vi 6, vi (D 3)]) kX6_readPolygon_7 rfl ?_
  refine AQ.ic_lt (tgt := 19) eX6_readPolygon_9 (by decide) (by first | assumption | exact ⟨by omega, by omega⟩) ⟨by decide, by decide⟩ (fun br1 => ?_) (fun br1 => ?_)
  · skip
    refine q_blk (lv2 := [(0, vr t)]) (st2 := [vr t, vr t]) kX6_readPolygon_19 rfl ?_
    refine q_gi eX6_readPolygon_21 fl_RX6_28 (Or.inl rfl) c0 (z := he) rfl ?_
    refine q_blk (lv2 := [(0, vr t)]) (st2 := [vi (he + 1), vr t]) kX6_readPolygon_24 rfl ?_
    refine q_pi eX6_readPolygon_26 fl_RX6_28 (fun q hq => by cases hq; exact Or.inl rfl) (Or.inl rfl) c0 (Nat.le_of_ble_eq_true rfl) (l2 := [0, 0, 0, 0, 0, 0, 0, tc, (he + 1), nu, px, cl, hs, er, ea]) rfl (fun h2 e3 => ?_)
    have k4 := (am_ne e3 b (by omega)).trans b0
    have k5 := hB.kept (lo := t) (hi := t + 1) (am_fr.st e3 (by omega) (by omega)) (by omega) (by omega)
    have k6 := (am_ne e3 (b + 1) (by omega)).trans b1
    have k7 := (am_ne e3 (b + 2) (by omega)).trans b2
    have k8 := (am_ne e3 (b + 3) (by omega)).trans b3
    have k9 := (am_ne e3 (b + 4) (by omega)).trans b4
    have k10 := (am_ne e3 (b + 5) (by omega)).trans b5
    have k11 := am_at e3
    have k12 := (am_ne e3 (t + 1) (by omega)).trans c1
    have k13 := (am_ne e3 (t + 2) (by omega)).trans c2
    have k14 := (am_ne e3 (t + 3) (by omega)).trans c3
    have k15 := (am_ne e3 (t + 4) (by omega)).trans c4
    have k16 := (am_ne e3 j (by omega)).trans hJ0
    have k17 := hLJ.kept (lo := t) (hi := t + 1) (am_fr.st e3 (by omega) (by omega)) (by omega)
    refine q_blk (lv2 := [(0, vr t)]) (st2 := [vi 3, vi 0, vr t]) kX6_readPolygon_29 rfl ?_
    refine AQ.callVi (av := [vi 0, vi 3]) (st := []) (c_X6_takeNumber ⟨_, k11, k12, k13, k14, k15⟩ (by omega) (by omega) kr vq (by omega) (by omega) (lo := 0) (hi := 3) (by omega) (by omega) (by omega) (by omega)) lk_RX6_160 (by decide) rfl rfl ⟨_, _, _, k11⟩ ⟨_, rfl, rfl⟩ (Nat.le_of_ble_eq_true rfl) eX6_readPolygon_32 (fun z18 h20 e19 => ?_)
    rcases e19 with ⟨⟨rfl, qh20, Xh20⟩ | ⟨rfl, eh20, ah20, qh20, Xh20⟩, Fh20⟩
    · skip
      obtain ⟨g21t, g210, g211, g212, g213, g214⟩ := id Xh20
      have k22 := (Fh20.2 b (by omega)).trans k4
      have k23 := k5.kept Fh20 (by omega) (by omega)
      have k24 := (Fh20.2 (b + 1) (by omega)).trans k6
      have k25 := (Fh20.2 (b + 2) (by omega)).trans k7
      have k26 := (Fh20.2 (b + 3) (by omega)).trans k8
      have k27 := (Fh20.2 (b + 4) (by omega)).trans k9
      have k28 := (Fh20.2 (b + 5) (by omega)).trans k10
      have k29 := (Fh20.2 j (by omega)).trans k16
      have k30 := k17.kept Fh20 (by omega)
      have rh20 := rN_r qh20
      have nh20 : (he + 1) ≠ n := fun e9 => by rw [e9] at rh20; omega
      refine AQ.of (AS.if_ne_t (tgt := 40) eX6_readPolygon_35 (by decide) ⟨by decide, by decide⟩ (by decide)) ?_
      refine q_blk (lv2 := [(0, vr t)]) (st2 := [vr t]) kX6_readPolygon_40 rfl ?_
      refine q_gi eX6_readPolygon_41 fl_RX6_31 (Or.inl rfl) g210 (z := (vl (he + 1))) rfl ?_
      refine q_blk (lv2 := [(0, vr t), (1, vi (vl (he + 1)))]) (st2 := [vr t]) kX6_readPolygon_44 rfl ?_
      refine AQ.callVi (av := []) (st := []) (c_X6_seePoint ⟨_, g210, g211, g212, g213, g214⟩ n0 kn (by omega) (by omega) kr vq (by omega) (by omega) k23 hD (by omega)) lk_RX6_176 (by decide) rfl rfl ⟨_, _, _, g210⟩ ⟨_, rfl, rfl⟩ (Nat.le_of_ble_eq_true rfl) eX6_readPolygon_46 (fun z31 h33 e32 => ?_)
      rcases e32 with ⟨⟨rfl, xh33, yh33, qh33, Xh33⟩ | ⟨rfl, eh33, ah33, qh33, Xh33⟩, Fh33⟩
      · skip
        obtain ⟨g34t, g340, g341, g342, g343, g344⟩ := id Xh33
        have k35 := (Fh33.2 b (by omega)).trans k22
        have k36 := k23.kept Fh33 (by omega) (by omega)
        have k37 := (Fh33.2 (b + 1) (by omega)).trans k24
        have k38 := (Fh33.2 (b + 2) (by omega)).trans k25
        have k39 := (Fh33.2 (b + 3) (by omega)).trans k26
        have k40 := (Fh33.2 (b + 4) (by omega)).trans k27
        have k41 := (Fh33.2 (b + 5) (by omega)).trans k28
        have k42 := (Fh33.2 j (by omega)).trans k29
        have k43 := k30.kept Fh33 (by omega)
        have rh33 := rP_r qh33
        have nh33 : ((he + 1) + 1) + 1 ≠ n := fun e9 => by rw [e9] at rh33; omega
        have mh33 : ((he + 1) + 1) ≠ n := fun e9 => by rw [e9] at rh33; omega
        have h_xh33 : am_c xh33 := by unfold am_c; omega
        have h_yh33 : am_c yh33 := by unfold am_c; omega
        refine AQ.of (AS.if_ne_t (tgt := 54) eX6_readPolygon_49 (by decide) ⟨by decide, by decide⟩ (by decide)) ?_
        refine q_blk (lv2 := [(0, vr t), (1, vi (vl (he + 1)))]) (st2 := [vr t]) kX6_readPolygon_54 rfl ?_
        refine q_gr eX6_readPolygon_55 fl_RX6_54 (Or.inl ⟨_, rfl⟩) g340 rfl ?_
        refine q_blk (lv2 := [(0, vr t), (1, vi (vl (he + 1)))]) (st2 := [vr t, vr b]) kX6_readPolygon_58 rfl ?_
        refine q_gi eX6_readPolygon_59 fl_RX6_34 (Or.inl rfl) g340 (z := xh33) rfl ?_
        refine q_blk (lv2 := [(0, vr t), (1, vi (vl (he + 1)))]) (st2 := [vr t, vi xh33, vr b]) kX6_readPolygon_62 rfl ?_
        refine q_gi eX6_readPolygon_63 fl_RX6_31 (Or.inl rfl) g340 (z := yh33) rfl ?_
        refine q_Vi (av := [vi xh33, vi yh33]) (st := []) (c_X0_isOccupied k36 hD h_xh33 h_yh33) lk_RX6_179 (by decide) rfl rfl k36.ob ⟨_, rfl, rfl⟩ (Nat.le_of_ble_eq_true rfl) eX6_readPolygon_66 (fun z44 e45 => ?_)
        rcases e45 with ⟨rfl, e45⟩ | ⟨rfl, e45⟩
        · skip
          refine AQ.of (AS.if_eq_f eX6_readPolygon_69 ⟨by decide, by decide⟩ (by decide) (by decide)) ?_
          refine q_blk (lv2 := [(0, vr t), (1, vi (vl (he + 1)))]) (st2 := [vi (-4), vr t]) kX6_readPolygon_72 rfl ?_
          refine AQ.callVi (av := [vi (-4)]) (st := []) (c_X6_fail (e := (-4)) ⟨_, g340, g341, g342, g343, g344⟩ (by omega) (by omega)) lk_RX6_83 (by decide) rfl rfl ⟨_, _, _, g340⟩ ⟨_, rfl, rfl⟩ (Nat.le_of_ble_eq_true rfl) eX6_readPolygon_75 (fun z46 h48 e47 => ?_)
          obtain ⟨z460, Xh48, Fh48⟩ := e47
          subst z460
          obtain ⟨g49t, g490, g491, g492, g493, g494⟩ := id Xh48
          have k50 := (Fh48.2 b (by omega)).trans k35
          have k51 := k36.kept Fh48 (by omega) (by omega)
          have k52 := (Fh48.2 (b + 1) (by omega)).trans k37
          have k53 := (Fh48.2 (b + 2) (by omega)).trans k38
          have k54 := (Fh48.2 (b + 3) (by omega)).trans k39
          have k55 := (Fh48.2 (b + 4) (by omega)).trans k40
          have k56 := (Fh48.2 (b + 5) (by omega)).trans k41
          have k57 := (Fh48.2 j (by omega)).trans k42
          have k58 := k43.kept Fh48 (by omega)
          exact q_rz rfl eX6_readPolygon_78 (by decide) ⟨0, rfl, Or.inr ⟨rfl, _, _, by unfold rG; rw [if_pos (by omega)]; exact (rB_r qh20 _).trans ((rB_r qh33 _).trans (gm_ite_t e45)), ⟨_, _, _, _, _, _, ⟨_, g490, g491, g492, g493, g494⟩, by omega, by omega⟩, BD.ba k51⟩, k57, k58, ((((am_f3.rf.tr (am_fr.t (am_fr.st e3 (by omega) (by omega)))).tr (am_fr.t Fh20)).tr (am_fr.t Fh33)).tr (am_fr.t Fh48))⟩
        · skip
          refine AQ.of (AS.if_eq_t (tgt := 79) eX6_readPolygon_69 (by decide) ⟨by decide, by decide⟩ (by decide)) ?_
          refine q_blk (lv2 := [(0, vr t), (1, vi (vl (he + 1)))]) (st2 := [vr t, vr t]) kX6_readPolygon_79 rfl ?_
          refine q_gi eX6_readPolygon_81 fl_RX6_28 (Or.inl rfl) g340 (z := (((he + 1) + 1) + 1)) rfl ?_
          refine q_blk (lv2 := [(0, vr t), (1, vi (vl (he + 1)))]) (st2 := [vi ((((he + 1) + 1) + 1) + 1), vr t]) kX6_readPolygon_84 rfl ?_
          refine q_pi eX6_readPolygon_86 fl_RX6_28 (fun q hq => by cases hq; exact Or.inl rfl) (Or.inl rfl) g340 (Nat.le_of_ble_eq_true rfl) (l2 := [0, 0, 0, 0, 0, 0, 0, g34t, ((((he + 1) + 1) + 1) + 1), yh33, xh33, cl, hs, er, ea]) rfl (fun h59 e60 => ?_)
          have k61 := (am_ne e60 b (by omega)).trans k35
          have k62 := k36.kept (lo := t) (hi := t + 1) (am_fr.st e60 (by omega) (by omega)) (by omega) (by omega)
          have k63 := (am_ne e60 (b + 1) (by omega)).trans k37
          have k64 := (am_ne e60 (b + 2) (by omega)).trans k38
          have k65 := (am_ne e60 (b + 3) (by omega)).trans k39
          have k66 := (am_ne e60 (b + 4) (by omega)).trans k40
          have k67 := (am_ne e60 (b + 5) (by omega)).trans k41
          have k68 := am_at e60
          have k69 := (am_ne e60 (t + 1) (by omega)).trans g341
          have k70 := (am_ne e60 (t + 2) (by omega)).trans g342
          have k71 := (am_ne e60 (t + 3) (by omega)).trans g343
          have k72 := (am_ne e60 (t + 4) (by omega)).trans g344
          have k73 := (am_ne e60 j (by omega)).trans k42
          have k74 := k43.kept (lo := t) (hi := t + 1) (am_fr.st e60 (by omega) (by omega)) (by omega)
          refine q_blk (lv2 := [(0, vr t), (1, vi (vl (he + 1)))]) (st2 := [vr t]) kX6_readPolygon_89 rfl ?_
          refine q_gr eX6_readPolygon_90 fl_RX6_54 (Or.inl ⟨_, rfl⟩) k68 rfl ?_
          refine q_blk (lv2 := [(0, vr t), (1, vi (vl (he + 1)))]) (st2 := [vr t, vi (vl (he + 1)), vr b]) kX6_readPolygon_93 rfl ?_
          refine q_gi eX6_readPolygon_95 fl_RX6_34 (Or.inl rfl) k68 (z := xh33) rfl ?_
          refine q_blk (lv2 := [(0, vr t), (1, vi (vl (he + 1)))]) (st2 := [vr t, vi xh33, vi (vl (he + 1)), vr b]) kX6_readPolygon_98 rfl ?_
          refine q_gi eX6_readPolygon_99 fl_RX6_31 (Or.inl rfl) k68 (z := yh33) rfl ?_
          refine AQ.callVi (av := [vi (vl (he + 1)), vi xh33, vi yh33]) (st := []) (c_X0_startShape k62 hD (by omega) (o := (vl (he + 1))) (x := xh33) (y := yh33)) lk_RX6_188 (by decide) rfl rfl k62.ob ⟨_, rfl, rfl⟩ (Nat.le_of_ble_eq_true rfl) eX6_readPolygon_102 (fun z75 h77 e76 => ?_)
          obtain ⟨eh77, Xh77, Fh77⟩ := e76
          subst eh77
          have k78 := (Fh77.2 t (by omega)).trans k68
          have k79 := (Fh77.2 (t + 1) (by omega)).trans k69
          have k80 := (Fh77.2 (t + 2) (by omega)).trans k70
          have k81 := (Fh77.2 (t + 3) (by omega)).trans k71
          have k82 := (Fh77.2 (t + 4) (by omega)).trans k72
          have k83 := (Fh77.2 j (by omega)).trans k73
          have k84 := k74.kept Fh77 (by omega)
          have Vh77 := gm_stP_vd hD (o := (vl (he + 1))) (x := xh33) (y := yh33) (by omega) (by omega) (by omega) (by omega)
          have Eh77 := gm_stP_ve hD hE (o := (vl (he + 1))) (x := xh33) (y := yh33) (by omega)
          have Th77 := gm_stP_3 (D := D) (o := (vl (he + 1))) (x := xh33) (y := yh33)
          have Ch77 := (gm_stP_p (D := D) (o := (vl (he + 1))) (x := xh33) (y := yh33) (by omega)).2.2.1
          obtain ⟨⟨u85a, u85b, u85c, ⟨u850, u851, u852, u853, u854, u855⟩, u85t⟩, -, -⟩ := id Xh77
          refine q_blk (lv2 := [(0, vr t), (1, vi (vl (he + 1))), (2, vi (D 3))]) (st2 := [vr t]) kX6_readPolygon_105 rfl ?_
          refine q_gr eX6_readPolygon_107 fl_RX6_54 (Or.inl ⟨_, rfl⟩) k78 rfl ?_
          refine q_blk (lv2 := [(0, vr t), (1, vi (vl (he + 1))), (2, vi (D 3))]) (st2 := [vi (D 3), vr b]) kX6_readPolygon_110 rfl ?_
          refine q_Vr (av := [vi (D 3)]) (st := []) (c_X0_shapeAt Xh77 Vh77 (p := D 3) (by omega) (by omega)) lk_RX6_192 (by decide) rfl rfl Xh77.ob ⟨_, rfl, rfl⟩ (Nat.le_of_ble_eq_true rfl) eX6_readPolygon_111 (fun z86 e87 => ?_)
          subst e87
          refine q_blk (lv2 := [(0, vr t), (1, vi (vl (he + 1))), (2, vi (D 3)), (3, vr (b + 6 + 3 * (Int.toNat (D 3)))), (4, vi 0)]) (st2 := []) kX6_readPolygon_114 rfl ?_
          refine q_sub (lv2 := [(0, vr t), (2, vi (D 3)), (3, vr (b + 6 + 3 * (Int.toNat (D 3)))), (4, vi 0)]) [0, 2, 3, 4] rfl ?_
          refine am_lp6 (I := fun (i : Int) (hh : AH) (D9 : Int → Int) (e9 : Int) (v9 : Int) (x9 : Int) => (0 ≤ i ∧ i ≤ 800) ∧ (0 ≤ e9 ∧ e9 ≤ n) ∧ rK kd st vl (D 3) (800 - i.toNat) D9 e9 = rK kd st vl (D 3) 800 (gm_stP D (vl (he + 1)) xh33 yh33) ((((he + 1) + 1) + 1) + 1) ∧ SU hh t u b j kd st vl e9 v9 x9 cl hs er ea cd ∧ BD hh b D9 cm sc ∧ VD D9 ∧ VE D9 ∧ D9 3 = D 3 + 1 ∧ pC D9 (D 3) = 0 ∧ JD hh j b l ∧ LJ hh l ∧ am_f3 h hh t b l) (μ := fun (i : Int) (hh : AH) (D9 : Int → Int) (e9 : Int) (v9 : Int) (x9 : Int) => (800 - i).toNat) (G := fun (i : Int) (hh : AH) (D9 : Int → Int) (e9 : Int) (v9 : Int) (x9 : Int) => AQ w m_X6_readPolygon 7 118 [(0, vr t), (2, vi (D 3)), (3, vr (b + 6 + 3 * (Int.toNat (D 3)))), (4, vi i)] [] hh (am_int (fun z h1 => ((z = 1 ∧ ∃ D' he', rG kd st vl D he = .inr (D', he') ∧ (∃ nu' px', SU h1 t u b j kd st vl he' nu' px' cl hs er ea cd) ∧ BD h1 b D' cm sc) ∨ (z = 0 ∧ ∃ e a, rG kd st vl D he = .inl (e, a) ∧ SF h1 t u b j kd st vl e a ∧ BA h1 b)) ∧ JD h1 j b l ∧ LJ h1 l ∧ am_f3 h h1 t b l))) ?_ 0 h77 (gm_stP D (vl (he + 1)) xh33 yh33) ((((he + 1) + 1) + 1) + 1) yh33 xh33 (⟨⟨by omega, by omega⟩, by omega, rfl, ⟨_, k78, k79, k80, k81, k82⟩, Xh77, Vh77, Eh77, Th77, Ch77, k83, k84, (((((am_f3.rf.tr (am_fr.t (am_fr.st e3 (by omega) (by omega)))).tr (am_fr.t Fh20)).tr (am_fr.t Fh33)).tr (am_fr.t (am_fr.st e60 (by omega) (by omega)))).tr (am_fr.b Fh77))⟩)
          intro i hh D9 e9 v9 x9 hI89 ih88
          obtain ⟨⟨i0, i1⟩, ⟨e0, e1⟩, hrk, hS9, hB9, hD9, hE9, hT9, hC9, hJ9, hL9, hf9⟩ := hI89
          obtain ⟨wt, w0, w1, w2, w3, w4⟩ := id hS9
          obtain ⟨⟨ya, yb, yc, ⟨y0, y1, y2, y3, y4, y5⟩, yt⟩, -, -⟩ := id hB9
          have dd9 := hD9.2.2.2.1
          have dd0 := hD9.1
          have dd1 := hD9.2.1
          have kr9 := kr e9 (by omega) (by omega)
          refine q_blk (lv2 := [(0, vr t), (2, vi (D 3)), (3, vr (b + 6 + 3 * (Int.toNat (D 3)))), (4, vi i)]) (st2 := [vi 800, vi i]) kX6_readPolygon_118 rfl ?_
          refine AQ.ic_ge (tgt := 201) eX6_readPolygon_123 (by decide) (by first | assumption | exact ⟨by omega, by omega⟩) ⟨by decide, by decide⟩ (fun br90 => ?_) (fun br90 => ?_)
          · skip
            have hend : rK kd st vl (D 3) 800 (gm_stP D (vl (he + 1)) xh33 yh33) ((((he + 1) + 1) + 1) + 1) = .inr (D9, e9) := by rw [← hrk]; exact rK_end (by omega)
            refine q_blk (lv2 := [(0, vr t), (2, vi (D 3)), (3, vr (b + 6 + 3 * (Int.toNat (D 3)))), (4, vi i)]) (st2 := [vr t]) kX6_readPolygon_201 rfl ?_
            refine q_Vi (av := []) (st := []) (c_X6_kindHere ⟨_, w0, w1, w2, w3, w4⟩ (by omega) (by omega)) lk_RX6_70 (by decide) rfl rfl ⟨_, _, _, w0⟩ ⟨_, rfl, rfl⟩ (Nat.le_of_ble_eq_true rfl) eX6_readPolygon_202 (fun z91 e92 => ?_)
            subst e92
            refine q_blk (lv2 := [(0, vr t), (2, vi (D 3)), (3, vr (b + 6 + 3 * (Int.toNat (D 3)))), (4, vi i)]) (st2 := [vi 59, vi (kd e9)]) kX6_readPolygon_205 rfl ?_
            refine AQ.ic_ne (tgt := 228) eX6_readPolygon_207 (by decide) (by first | assumption | exact ⟨by omega, by omega⟩) ⟨by decide, by decide⟩ (fun br93 => ?_) (fun br93 => ?_)
            · skip
              have v94 := hB9.sh (p := D 3) (by omega) (by omega)
              obtain ⟨v94x, v94y, v94P, v94n, v94c, v94z⟩ := id v94
              have v94V := hD9.vc (p := D 3) (by omega) (by omega)
              refine q_blk (lv2 := [(0, vr t), (2, vi (D 3)), (3, vr (b + 6 + 3 * (Int.toNat (D 3)))), (4, vi i)]) (st2 := [vi 1, vr (b + 6 + 3 * (Int.toNat (D 3)))]) kX6_readPolygon_228 rfl ?_
              refine q_pi eX6_readPolygon_230 fl_RX6_212 (fun q hq => by cases hq; exact Or.inl rfl) (Or.inr ⟨rfl, by first | decide | omega⟩) v94P.1 (Nat.le_of_ble_eq_true rfl) (l2 := [0, 0, (pO D9 (D 3)), (pN D9 (D 3)), 1]) rfl (fun h95 e96 => ?_)
              have k97 := (am_ne e96 t (by omega)).trans w0
              have k98 := (am_ne e96 (t + 1) (by omega)).trans w1
              have k99 := (am_ne e96 (t + 2) (by omega)).trans w2
              have k100 := (am_ne e96 (t + 3) (by omega)).trans w3
              have k101 := (am_ne e96 (t + 4) (by omega)).trans w4
              have k102 := (am_ne e96 j (by omega)).trans hJ9
              have k103 := hL9.kept (lo := (b + 6 + 3 * (Int.toNat (D 3)))) (hi := (b + 6 + 3 * (Int.toNat (D 3))) + 1) (am_fr.st e96 (by omega) (by omega)) (by omega)
              have k104 := (am_ne e96 b (by omega)).trans y0
              have k105 := (am_ne e96 (b + 1) (by omega)).trans y1
              have k106 := (am_ne e96 (b + 2) (by omega)).trans y2
              have k107 := (am_ne e96 (b + 3) (by omega)).trans y3
              have k108 := (am_ne e96 (b + 4) (by omega)).trans y4
              have k109 := (am_ne e96 (b + 5) (by omega)).trans y5
              have k110 := am_at e96
              have k111 := (am_ne e96 ((b + 6 + 3 * (Int.toNat (D 3))) + 1) (by omega)).trans v94P.2.1
              have k112 := (am_ne e96 ((b + 6 + 3 * (Int.toNat (D 3))) + 2) (by omega)).trans v94P.2.2
              have BB9 : BD h95 b (gm_clP D9 (D 3)) cm sc := hB9.setP hD9 (by omega) (by omega) ⟨v94x, v94y, ⟨k110, k111, k112⟩, v94n, Or.inr rfl, v94z⟩ (am_fr.st e96 (by omega) (by omega))
              have W9 : (gm_clP D9 (D 3)) 3 = D 3 + 1 := (gm_setP_o (by omega)).trans hT9
              have FB9 : am_fr _ _ b (b + 24) := am_fr.st e96 (by omega) (by omega)
              refine q_blk (lv2 := [(0, vr t), (2, vi (D 3)), (3, vr (b + 6 + 3 * (Int.toNat (D 3)))), (4, vi i)]) (st2 := [vi 59, vr t]) kX6_readPolygon_233 rfl ?_
              refine AQ.callVi (av := [vi 59]) (st := []) (c_X6_take ⟨_, k97, k98, k99, k100, k101⟩ (by omega) (by omega) kr vq (k := 59) (by omega) (by omega)) lk_RX6_166 (by decide) rfl rfl ⟨_, _, _, k97⟩ ⟨_, rfl, rfl⟩ (Nat.le_of_ble_eq_true rfl) eX6_readPolygon_236 (fun z113 h115 e114 => ?_)
              rcases e114 with ⟨⟨rfl, qh115, Xh115⟩ | ⟨rfl, qh115, Xh115⟩, Fh115⟩
              · skip
                obtain ⟨g116t, g1160, g1161, g1162, g1163, g1164⟩ := id Xh115
                have k117 := (Fh115.2 j (by omega)).trans k102
                have k118 := k103.kept Fh115 (by omega)
                have k119 := (Fh115.2 b (by omega)).trans k104
                have k120 := BB9.kept Fh115 (by omega) (by omega)
                have nh115 : e9 ≠ n := fun e9 => by rw [e9] at qh115; omega
                exact q_rz rfl eX6_readPolygon_239 (by decide) ⟨1, rfl, Or.inl ⟨rfl, D, 0, absurd qh115 (by omega), absurd qh115 (by omega), absurd qh115 (by omega)⟩, k117, k118, (((am_f3.rf.tr hf9).tr (am_fr.b FB9)).tr (am_fr.t Fh115))⟩
              · skip
                obtain ⟨g121t, g1210, g1211, g1212, g1213, g1214⟩ := id Xh115
                have k122 := (Fh115.2 j (by omega)).trans k102
                have k123 := k103.kept Fh115 (by omega)
                have k124 := (Fh115.2 b (by omega)).trans k104
                have k125 := BB9.kept Fh115 (by omega) (by omega)
                exact q_rz rfl eX6_readPolygon_239 (by decide) ⟨0, rfl, Or.inr ⟨rfl, _, _, by unfold rG; rw [if_pos (by omega)]; exact (rB_r qh20 _).trans ((rB_r qh33 _).trans ((gm_ite_f e45).trans ((rB_r hend _).trans (if_neg (by omega))))), ⟨_, _, _, _, _, _, ⟨_, g1210, g1211, g1212, g1213, g1214⟩, by omega, by omega⟩, BD.ba k125⟩, k122, k123, (((am_f3.rf.tr hf9).tr (am_fr.b FB9)).tr (am_fr.t Fh115))⟩
            · skip
              refine q_blk (lv2 := [(0, vr t), (2, vi (D 3)), (3, vr (b + 6 + 3 * (Int.toNat (D 3)))), (4, vi i)]) (st2 := [vr t]) kX6_readPolygon_210 rfl ?_
              refine q_gr eX6_readPolygon_211 fl_RX6_58 (Or.inl ⟨_, rfl⟩) w0 rfl ?_
              refine q_blk (lv2 := [(0, vr t), (2, vi (D 3)), (3, vr (b + 6 + 3 * (Int.toNat (D 3)))), (4, vi i)]) (st2 := [vi (D 3), vr j]) kX6_readPolygon_214 rfl ?_
              refine AQ.callVi (av := [vi (D 3)]) (st := []) (c_X3_reasonOfClosing hJ9 hB9 hD9 hE9 hL9 hlj hlb (p := D 3) (by omega) (by omega)) lk_RX6_209 (by decide) rfl rfl (JD.ob hJ9) ⟨_, rfl, rfl⟩ (Nat.le_of_ble_eq_true rfl) eX6_readPolygon_215 (fun z126 h128 e127 => ?_)
              obtain ⟨Rh128, Lh128, Fh128⟩ := e127
              have Qh128 := gm_rL_r Rh128
              have k129 := (Fh128.2 t (by omega)).trans w0
              have k130 := (Fh128.2 (t + 1) (by omega)).trans w1
              have k131 := (Fh128.2 (t + 2) (by omega)).trans w2
              have k132 := (Fh128.2 (t + 3) (by omega)).trans w3
              have k133 := (Fh128.2 (t + 4) (by omega)).trans w4
              have k134 := (Fh128.2 j (by omega)).trans hJ9
              have k135 := (Fh128.2 b (by omega)).trans y0
              have k136 := hB9.kept Fh128 (by omega) (by omega)
              have k137 := (Fh128.2 (b + 1) (by omega)).trans y1
              have k138 := (Fh128.2 (b + 2) (by omega)).trans y2
              have k139 := (Fh128.2 (b + 3) (by omega)).trans y3
              have k140 := (Fh128.2 (b + 4) (by omega)).trans y4
              have k141 := (Fh128.2 (b + 5) (by omega)).trans y5
              refine AQ.if_eq (tgt := 228) eX6_readPolygon_218 (by decide) (by first | assumption | exact ⟨by omega, by omega⟩) (fun br142 => ?_) (fun br142 => ?_)
              · skip
                have R0 := Rh128
                rw [show z126 = 0 by omega] at R0
                have r0 := gm_rL_0 R0
                have v143 := k136.sh (p := D 3) (by omega) (by omega)
                obtain ⟨v143x, v143y, v143P, v143n, v143c, v143z⟩ := id v143
                have v143V := hD9.vc (p := D 3) (by omega) (by omega)
                refine q_blk (lv2 := [(0, vr t), (2, vi (D 3)), (3, vr (b + 6 + 3 * (Int.toNat (D 3)))), (4, vi i)]) (st2 := [vi 1, vr (b + 6 + 3 * (Int.toNat (D 3)))]) kX6_readPolygon_228 rfl ?_
                refine q_pi eX6_readPolygon_230 fl_RX6_212 (fun q hq => by cases hq; exact Or.inl rfl) (Or.inr ⟨rfl, by first | decide | omega⟩) v143P.1 (Nat.le_of_ble_eq_true rfl) (l2 := [0, 0, (pO D9 (D 3)), (pN D9 (D 3)), 1]) rfl (fun h144 e145 => ?_)
                have k146 := (am_ne e145 t (by omega)).trans k129
                have k147 := (am_ne e145 (t + 1) (by omega)).trans k130
                have k148 := (am_ne e145 (t + 2) (by omega)).trans k131
                have k149 := (am_ne e145 (t + 3) (by omega)).trans k132
                have k150 := (am_ne e145 (t + 4) (by omega)).trans k133
                have k151 := (am_ne e145 j (by omega)).trans k134
                have k152 := Lh128.kept (lo := (b + 6 + 3 * (Int.toNat (D 3)))) (hi := (b + 6 + 3 * (Int.toNat (D 3))) + 1) (am_fr.st e145 (by omega) (by omega)) (by omega)
                have k153 := (am_ne e145 b (by omega)).trans k135
                have k154 := (am_ne e145 (b + 1) (by omega)).trans k137
                have k155 := (am_ne e145 (b + 2) (by omega)).trans k138
                have k156 := (am_ne e145 (b + 3) (by omega)).trans k139
                have k157 := (am_ne e145 (b + 4) (by omega)).trans k140
                have k158 := (am_ne e145 (b + 5) (by omega)).trans k141
                have k159 := am_at e145
                have k160 := (am_ne e145 ((b + 6 + 3 * (Int.toNat (D 3))) + 1) (by omega)).trans v143P.2.1
                have k161 := (am_ne e145 ((b + 6 + 3 * (Int.toNat (D 3))) + 2) (by omega)).trans v143P.2.2
                have BB9 : BD h144 b (gm_clP D9 (D 3)) cm sc := k136.setP hD9 (by omega) (by omega) ⟨v143x, v143y, ⟨k159, k160, k161⟩, v143n, Or.inr rfl, v143z⟩ (am_fr.st e145 (by omega) (by omega))
                have W9 : (gm_clP D9 (D 3)) 3 = D 3 + 1 := (gm_setP_o (by omega)).trans hT9
                have FB9 : am_fr _ _ b (b + 24) := am_fr.st e145 (by omega) (by omega)
                refine q_blk (lv2 := [(0, vr t), (2, vi (D 3)), (3, vr (b + 6 + 3 * (Int.toNat (D 3)))), (4, vi i)]) (st2 := [vi 59, vr t]) kX6_readPolygon_233 rfl ?_
                refine AQ.callVi (av := [vi 59]) (st := []) (c_X6_take ⟨_, k146, k147, k148, k149, k150⟩ (by omega) (by omega) kr vq (k := 59) (by omega) (by omega)) lk_RX6_166 (by decide) rfl rfl ⟨_, _, _, k146⟩ ⟨_, rfl, rfl⟩ (Nat.le_of_ble_eq_true rfl) eX6_readPolygon_236 (fun z162 h164 e163 => ?_)
                rcases e163 with ⟨⟨rfl, qh164, Xh164⟩ | ⟨rfl, qh164, Xh164⟩, Fh164⟩
                · skip
                  obtain ⟨g165t, g1650, g1651, g1652, g1653, g1654⟩ := id Xh164
                  have k166 := (Fh164.2 j (by omega)).trans k151
                  have k167 := k152.kept Fh164 (by omega)
                  have k168 := (Fh164.2 b (by omega)).trans k153
                  have k169 := BB9.kept Fh164 (by omega) (by omega)
                  have nh164 : e9 ≠ n := fun e9 => by rw [e9] at qh164; omega
                  exact q_rz rfl eX6_readPolygon_239 (by decide) ⟨1, rfl, Or.inl ⟨rfl, _, _, by unfold rG; rw [if_pos (by omega)]; exact (rB_r qh20 _).trans ((rB_r qh33 _).trans ((gm_ite_f e45).trans ((rB_r hend _).trans ((if_pos (by omega)).trans (gm_ite_t R0))))), ⟨_, _, ⟨_, g1650, g1651, g1652, g1653, g1654⟩⟩, k169⟩, k166, k167, ((((am_f3.rf.tr hf9).tr (am_fr.l Fh128)).tr (am_fr.b FB9)).tr (am_fr.t Fh164))⟩
                · skip
                  obtain ⟨g170t, g1700, g1701, g1702, g1703, g1704⟩ := id Xh164
                  have k171 := (Fh164.2 j (by omega)).trans k151
                  have k172 := k152.kept Fh164 (by omega)
                  have k173 := (Fh164.2 b (by omega)).trans k153
                  have k174 := BB9.kept Fh164 (by omega) (by omega)
                  exact q_rz rfl eX6_readPolygon_239 (by decide) ⟨0, rfl, Or.inr ⟨rfl, 0, 0, absurd (by omega) qh164, absurd (by omega) qh164, absurd (by omega) qh164⟩, k171, k172, ((((am_f3.rf.tr hf9).tr (am_fr.l Fh128)).tr (am_fr.b FB9)).tr (am_fr.t Fh164))⟩
              · skip
                refine q_blk (lv2 := [(0, vr t), (2, vi (D 3)), (3, vr (b + 6 + 3 * (Int.toNat (D 3)))), (4, vi i)]) (st2 := [vi (-4), vr t]) kX6_readPolygon_221 rfl ?_
                refine AQ.callVi (av := [vi (-4)]) (st := []) (c_X6_fail (e := (-4)) ⟨_, k129, k130, k131, k132, k133⟩ (by omega) (by omega)) lk_RX6_83 (by decide) rfl rfl ⟨_, _, _, k129⟩ ⟨_, rfl, rfl⟩ (Nat.le_of_ble_eq_true rfl) eX6_readPolygon_224 (fun z175 h177 e176 => ?_)
                obtain ⟨z1750, Xh177, Fh177⟩ := e176
                subst z1750
                obtain ⟨g178t, g1780, g1781, g1782, g1783, g1784⟩ := id Xh177
                have k179 := (Fh177.2 j (by omega)).trans k134
                have k180 := Lh128.kept Fh177 (by omega)
                have k181 := (Fh177.2 b (by omega)).trans k135
                have k182 := k136.kept Fh177 (by omega) (by omega)
                have k183 := (Fh177.2 (b + 1) (by omega)).trans k137
                have k184 := (Fh177.2 (b + 2) (by omega)).trans k138
                have k185 := (Fh177.2 (b + 3) (by omega)).trans k139
                have k186 := (Fh177.2 (b + 4) (by omega)).trans k140
                have k187 := (Fh177.2 (b + 5) (by omega)).trans k141
                exact q_rz rfl eX6_readPolygon_227 (by decide) ⟨0, rfl, Or.inr ⟨rfl, _, _, by unfold rG; rw [if_pos (by omega)]; exact (rB_r qh20 _).trans ((rB_r qh33 _).trans ((gm_ite_f e45).trans ((rB_r hend _).trans ((if_pos (by omega)).trans (gm_ite_f (fun R0 => absurd (gm_rL_one Rh128 R0) (by omega))))))), ⟨_, _, _, _, _, _, ⟨_, g1780, g1781, g1782, g1783, g1784⟩, by omega, by omega⟩, BD.ba k182⟩, k179, k180, (((am_f3.rf.tr hf9).tr (am_fr.l Fh128)).tr (am_fr.t Fh177))⟩
          · skip
            refine q_blk (lv2 := [(0, vr t), (2, vi (D 3)), (3, vr (b + 6 + 3 * (Int.toNat (D 3)))), (4, vi i)]) (st2 := [vr t]) kX6_readPolygon_126 rfl ?_
            refine q_Vi (av := []) (st := []) (c_X6_kindHere ⟨_, w0, w1, w2, w3, w4⟩ (by omega) (by omega)) lk_RX6_70 (by decide) rfl rfl ⟨_, _, _, w0⟩ ⟨_, rfl, rfl⟩ (Nat.le_of_ble_eq_true rfl) eX6_readPolygon_127 (fun z188 e189 => ?_)
            subst e189
            refine q_blk (lv2 := [(0, vr t), (2, vi (D 3)), (3, vr (b + 6 + 3 * (Int.toNat (D 3)))), (4, vi i)]) (st2 := [vi 2, vi (kd e9)]) kX6_readPolygon_130 rfl ?_
            refine AQ.ic_ne (tgt := 201) eX6_readPolygon_131 (by decide) (by first | assumption | exact ⟨by omega, by omega⟩) ⟨by decide, by decide⟩ (fun br190 => ?_) (fun br190 => ?_)
            · skip
              have hend : rK kd st vl (D 3) 800 (gm_stP D (vl (he + 1)) xh33 yh33) ((((he + 1) + 1) + 1) + 1) = .inr (D9, e9) := by rw [← hrk]; exact rK_end (by omega)
              refine q_blk (lv2 := [(0, vr t), (2, vi (D 3)), (3, vr (b + 6 + 3 * (Int.toNat (D 3)))), (4, vi i)]) (st2 := [vr t]) kX6_readPolygon_201 rfl ?_
              refine q_Vi (av := []) (st := []) (c_X6_kindHere ⟨_, w0, w1, w2, w3, w4⟩ (by omega) (by omega)) lk_RX6_70 (by decide) rfl rfl ⟨_, _, _, w0⟩ ⟨_, rfl, rfl⟩ (Nat.le_of_ble_eq_true rfl) eX6_readPolygon_202 (fun z191 e192 => ?_)
              subst e192
              refine q_blk (lv2 := [(0, vr t), (2, vi (D 3)), (3, vr (b + 6 + 3 * (Int.toNat (D 3)))), (4, vi i)]) (st2 := [vi 59, vi (kd e9)]) kX6_readPolygon_205 rfl ?_
              refine AQ.ic_ne (tgt := 228) eX6_readPolygon_207 (by decide) (by first | assumption | exact ⟨by omega, by omega⟩) ⟨by decide, by decide⟩ (fun br193 => ?_) (fun br193 => ?_)
              · skip
                have v194 := hB9.sh (p := D 3) (by omega) (by omega)
                obtain ⟨v194x, v194y, v194P, v194n, v194c, v194z⟩ := id v194
                have v194V := hD9.vc (p := D 3) (by omega) (by omega)
                refine q_blk (lv2 := [(0, vr t), (2, vi (D 3)), (3, vr (b + 6 + 3 * (Int.toNat (D 3)))), (4, vi i)]) (st2 := [vi 1, vr (b + 6 + 3 * (Int.toNat (D 3)))]) kX6_readPolygon_228 rfl ?_
                refine q_pi eX6_readPolygon_230 fl_RX6_212 (fun q hq => by cases hq; exact Or.inl rfl) (Or.inr ⟨rfl, by first | decide | omega⟩) v194P.1 (Nat.le_of_ble_eq_true rfl) (l2 := [0, 0, (pO D9 (D 3)), (pN D9 (D 3)), 1]) rfl (fun h195 e196 => ?_)
                have k197 := (am_ne e196 t (by omega)).trans w0
                have k198 := (am_ne e196 (t + 1) (by omega)).trans w1
                have k199 := (am_ne e196 (t + 2) (by omega)).trans w2
                have k200 := (am_ne e196 (t + 3) (by omega)).trans w3
                have k201 := (am_ne e196 (t + 4) (by omega)).trans w4
                have k202 := (am_ne e196 j (by omega)).trans hJ9
                have k203 := hL9.kept (lo := (b + 6 + 3 * (Int.toNat (D 3)))) (hi := (b + 6 + 3 * (Int.toNat (D 3))) + 1) (am_fr.st e196 (by omega) (by omega)) (by omega)
                have k204 := (am_ne e196 b (by omega)).trans y0
                have k205 := (am_ne e196 (b + 1) (by omega)).trans y1
                have k206 := (am_ne e196 (b + 2) (by omega)).trans y2
                have k207 := (am_ne e196 (b + 3) (by omega)).trans y3
                have k208 := (am_ne e196 (b + 4) (by omega)).trans y4
                have k209 := (am_ne e196 (b + 5) (by omega)).trans y5
                have k210 := am_at e196
                have k211 := (am_ne e196 ((b + 6 + 3 * (Int.toNat (D 3))) + 1) (by omega)).trans v194P.2.1
                have k212 := (am_ne e196 ((b + 6 + 3 * (Int.toNat (D 3))) + 2) (by omega)).trans v194P.2.2
                have BB9 : BD h195 b (gm_clP D9 (D 3)) cm sc := hB9.setP hD9 (by omega) (by omega) ⟨v194x, v194y, ⟨k210, k211, k212⟩, v194n, Or.inr rfl, v194z⟩ (am_fr.st e196 (by omega) (by omega))
                have W9 : (gm_clP D9 (D 3)) 3 = D 3 + 1 := (gm_setP_o (by omega)).trans hT9
                have FB9 : am_fr _ _ b (b + 24) := am_fr.st e196 (by omega) (by omega)
                refine q_blk (lv2 := [(0, vr t), (2, vi (D 3)), (3, vr (b + 6 + 3 * (Int.toNat (D 3)))), (4, vi i)]) (st2 := [vi 59, vr t]) kX6_readPolygon_233 rfl ?_
                refine AQ.callVi (av := [vi 59]) (st := []) (c_X6_take ⟨_, k197, k198, k199, k200, k201⟩ (by omega) (by omega) kr vq (k := 59) (by omega) (by omega)) lk_RX6_166 (by decide) rfl rfl ⟨_, _, _, k197⟩ ⟨_, rfl, rfl⟩ (Nat.le_of_ble_eq_true rfl) eX6_readPolygon_236 (fun z213 h215 e214 => ?_)
                rcases e214 with ⟨⟨rfl, qh215, Xh215⟩ | ⟨rfl, qh215, Xh215⟩, Fh215⟩
                · skip
                  obtain ⟨g216t, g2160, g2161, g2162, g2163, g2164⟩ := id Xh215
                  have k217 := (Fh215.2 j (by omega)).trans k202
                  have k218 := k203.kept Fh215 (by omega)
                  have k219 := (Fh215.2 b (by omega)).trans k204
                  have k220 := BB9.kept Fh215 (by omega) (by omega)
                  have nh215 : e9 ≠ n := fun e9 => by rw [e9] at qh215; omega
                  exact q_rz rfl eX6_readPolygon_239 (by decide) ⟨1, rfl, Or.inl ⟨rfl, D, 0, absurd qh215 (by omega), absurd qh215 (by omega), absurd qh215 (by omega)⟩, k217, k218, (((am_f3.rf.tr hf9).tr (am_fr.b FB9)).tr (am_fr.t Fh215))⟩
                · skip
                  obtain ⟨g221t, g2210, g2211, g2212, g2213, g2214⟩ := id Xh215
                  have k222 := (Fh215.2 j (by omega)).trans k202
                  have k223 := k203.kept Fh215 (by omega)
                  have k224 := (Fh215.2 b (by omega)).trans k204
                  have k225 := BB9.kept Fh215 (by omega) (by omega)
                  exact q_rz rfl eX6_readPolygon_239 (by decide) ⟨0, rfl, Or.inr ⟨rfl, _, _, by unfold rG; rw [if_pos (by omega)]; exact (rB_r qh20 _).trans ((rB_r qh33 _).trans ((gm_ite_f e45).trans ((rB_r hend _).trans (if_neg (by omega))))), ⟨_, _, _, _, _, _, ⟨_, g2210, g2211, g2212, g2213, g2214⟩, by omega, by omega⟩, BD.ba k225⟩, k222, k223, (((am_f3.rf.tr hf9).tr (am_fr.b FB9)).tr (am_fr.t Fh215))⟩
              · skip
                refine q_blk (lv2 := [(0, vr t), (2, vi (D 3)), (3, vr (b + 6 + 3 * (Int.toNat (D 3)))), (4, vi i)]) (st2 := [vr t]) kX6_readPolygon_210 rfl ?_
                refine q_gr eX6_readPolygon_211 fl_RX6_58 (Or.inl ⟨_, rfl⟩) w0 rfl ?_
                refine q_blk (lv2 := [(0, vr t), (2, vi (D 3)), (3, vr (b + 6 + 3 * (Int.toNat (D 3)))), (4, vi i)]) (st2 := [vi (D 3), vr j]) kX6_readPolygon_214 rfl ?_
                refine AQ.callVi (av := [vi (D 3)]) (st := []) (c_X3_reasonOfClosing hJ9 hB9 hD9 hE9 hL9 hlj hlb (p := D 3) (by omega) (by omega)) lk_RX6_209 (by decide) rfl rfl (JD.ob hJ9) ⟨_, rfl, rfl⟩ (Nat.le_of_ble_eq_true rfl) eX6_readPolygon_215 (fun z226 h228 e227 => ?_)
                obtain ⟨Rh228, Lh228, Fh228⟩ := e227
                have Qh228 := gm_rL_r Rh228
                have k229 := (Fh228.2 t (by omega)).trans w0
                have k230 := (Fh228.2 (t + 1) (by omega)).trans w1
                have k231 := (Fh228.2 (t + 2) (by omega)).trans w2
                have k232 := (Fh228.2 (t + 3) (by omega)).trans w3
                have k233 := (Fh228.2 (t + 4) (by omega)).trans w4
                have k234 := (Fh228.2 j (by omega)).trans hJ9
                have k235 := (Fh228.2 b (by omega)).trans y0
                have k236 := hB9.kept Fh228 (by omega) (by omega)
                have k237 := (Fh228.2 (b + 1) (by omega)).trans y1
                have k238 := (Fh228.2 (b + 2) (by omega)).trans y2
                have k239 := (Fh228.2 (b + 3) (by omega)).trans y3
                have k240 := (Fh228.2 (b + 4) (by omega)).trans y4
                have k241 := (Fh228.2 (b + 5) (by omega)).trans y5
                refine AQ.if_eq (tgt := 228) eX6_readPolygon_218 (by decide) (by first | assumption | exact ⟨by omega, by omega⟩) (fun br242 => ?_) (fun br242 => ?_)
                · skip
                  have R0 := Rh228
                  rw [show z226 = 0 by omega] at R0
                  have r0 := gm_rL_0 R0
                  have v243 := k236.sh (p := D 3) (by omega) (by omega)
                  obtain ⟨v243x, v243y, v243P, v243n, v243c, v243z⟩ := id v243
                  have v243V := hD9.vc (p := D 3) (by omega) (by omega)
                  refine q_blk (lv2 := [(0, vr t), (2, vi (D 3)), (3, vr (b + 6 + 3 * (Int.toNat (D 3)))), (4, vi i)]) (st2 := [vi 1, vr (b + 6 + 3 * (Int.toNat (D 3)))]) kX6_readPolygon_228 rfl ?_
                  refine q_pi eX6_readPolygon_230 fl_RX6_212 (fun q hq => by cases hq; exact Or.inl rfl) (Or.inr ⟨rfl, by first | decide | omega⟩) v243P.1 (Nat.le_of_ble_eq_true rfl) (l2 := [0, 0, (pO D9 (D 3)), (pN D9 (D 3)), 1]) rfl (fun h244 e245 => ?_)
                  have k246 := (am_ne e245 t (by omega)).trans k229
                  have k247 := (am_ne e245 (t + 1) (by omega)).trans k230
                  have k248 := (am_ne e245 (t + 2) (by omega)).trans k231
                  have k249 := (am_ne e245 (t + 3) (by omega)).trans k232
                  have k250 := (am_ne e245 (t + 4) (by omega)).trans k233
                  have k251 := (am_ne e245 j (by omega)).trans k234
                  have k252 := Lh228.kept (lo := (b + 6 + 3 * (Int.toNat (D 3)))) (hi := (b + 6 + 3 * (Int.toNat (D 3))) + 1) (am_fr.st e245 (by omega) (by omega)) (by omega)
                  have k253 := (am_ne e245 b (by omega)).trans k235
                  have k254 := (am_ne e245 (b + 1) (by omega)).trans k237
                  have k255 := (am_ne e245 (b + 2) (by omega)).trans k238
                  have k256 := (am_ne e245 (b + 3) (by omega)).trans k239
                  have k257 := (am_ne e245 (b + 4) (by omega)).trans k240
                  have k258 := (am_ne e245 (b + 5) (by omega)).trans k241
                  have k259 := am_at e245
                  have k260 := (am_ne e245 ((b + 6 + 3 * (Int.toNat (D 3))) + 1) (by omega)).trans v243P.2.1
                  have k261 := (am_ne e245 ((b + 6 + 3 * (Int.toNat (D 3))) + 2) (by omega)).trans v243P.2.2
                  have BB9 : BD h244 b (gm_clP D9 (D 3)) cm sc := k236.setP hD9 (by omega) (by omega) ⟨v243x, v243y, ⟨k259, k260, k261⟩, v243n, Or.inr rfl, v243z⟩ (am_fr.st e245 (by omega) (by omega))
                  have W9 : (gm_clP D9 (D 3)) 3 = D 3 + 1 := (gm_setP_o (by omega)).trans hT9
                  have FB9 : am_fr _ _ b (b + 24) := am_fr.st e245 (by omega) (by omega)
                  refine q_blk (lv2 := [(0, vr t), (2, vi (D 3)), (3, vr (b + 6 + 3 * (Int.toNat (D 3)))), (4, vi i)]) (st2 := [vi 59, vr t]) kX6_readPolygon_233 rfl ?_
                  refine AQ.callVi (av := [vi 59]) (st := []) (c_X6_take ⟨_, k246, k247, k248, k249, k250⟩ (by omega) (by omega) kr vq (k := 59) (by omega) (by omega)) lk_RX6_166 (by decide) rfl rfl ⟨_, _, _, k246⟩ ⟨_, rfl, rfl⟩ (Nat.le_of_ble_eq_true rfl) eX6_readPolygon_236 (fun z262 h264 e263 => ?_)
                  rcases e263 with ⟨⟨rfl, qh264, Xh264⟩ | ⟨rfl, qh264, Xh264⟩, Fh264⟩
                  · skip
                    obtain ⟨g265t, g2650, g2651, g2652, g2653, g2654⟩ := id Xh264
                    have k266 := (Fh264.2 j (by omega)).trans k251
                    have k267 := k252.kept Fh264 (by omega)
                    have k268 := (Fh264.2 b (by omega)).trans k253
                    have k269 := BB9.kept Fh264 (by omega) (by omega)
                    have nh264 : e9 ≠ n := fun e9 => by rw [e9] at qh264; omega
                    exact q_rz rfl eX6_readPolygon_239 (by decide) ⟨1, rfl, Or.inl ⟨rfl, _, _, by unfold rG; rw [if_pos (by omega)]; exact (rB_r qh20 _).trans ((rB_r qh33 _).trans ((gm_ite_f e45).trans ((rB_r hend _).trans ((if_pos (by omega)).trans (gm_ite_t R0))))), ⟨_, _, ⟨_, g2650, g2651, g2652, g2653, g2654⟩⟩, k269⟩, k266, k267, ((((am_f3.rf.tr hf9).tr (am_fr.l Fh228)).tr (am_fr.b FB9)).tr (am_fr.t Fh264))⟩
                  · skip
                    obtain ⟨g270t, g2700, g2701, g2702, g2703, g2704⟩ := id Xh264
                    have k271 := (Fh264.2 j (by omega)).trans k251
                    have k272 := k252.kept Fh264 (by omega)
                    have k273 := (Fh264.2 b (by omega)).trans k253
                    have k274 := BB9.kept Fh264 (by omega) (by omega)
                    exact q_rz rfl eX6_readPolygon_239 (by decide) ⟨0, rfl, Or.inr ⟨rfl, 0, 0, absurd (by omega) qh264, absurd (by omega) qh264, absurd (by omega) qh264⟩, k271, k272, ((((am_f3.rf.tr hf9).tr (am_fr.l Fh228)).tr (am_fr.b FB9)).tr (am_fr.t Fh264))⟩
                · skip
                  refine q_blk (lv2 := [(0, vr t), (2, vi (D 3)), (3, vr (b + 6 + 3 * (Int.toNat (D 3)))), (4, vi i)]) (st2 := [vi (-4), vr t]) kX6_readPolygon_221 rfl ?_
                  refine AQ.callVi (av := [vi (-4)]) (st := []) (c_X6_fail (e := (-4)) ⟨_, k229, k230, k231, k232, k233⟩ (by omega) (by omega)) lk_RX6_83 (by decide) rfl rfl ⟨_, _, _, k229⟩ ⟨_, rfl, rfl⟩ (Nat.le_of_ble_eq_true rfl) eX6_readPolygon_224 (fun z275 h277 e276 => ?_)
                  obtain ⟨z2750, Xh277, Fh277⟩ := e276
                  subst z2750
                  obtain ⟨g278t, g2780, g2781, g2782, g2783, g2784⟩ := id Xh277
                  have k279 := (Fh277.2 j (by omega)).trans k234
                  have k280 := Lh228.kept Fh277 (by omega)
                  have k281 := (Fh277.2 b (by omega)).trans k235
                  have k282 := k236.kept Fh277 (by omega) (by omega)
                  have k283 := (Fh277.2 (b + 1) (by omega)).trans k237
                  have k284 := (Fh277.2 (b + 2) (by omega)).trans k238
                  have k285 := (Fh277.2 (b + 3) (by omega)).trans k239
                  have k286 := (Fh277.2 (b + 4) (by omega)).trans k240
                  have k287 := (Fh277.2 (b + 5) (by omega)).trans k241
                  exact q_rz rfl eX6_readPolygon_227 (by decide) ⟨0, rfl, Or.inr ⟨rfl, _, _, by unfold rG; rw [if_pos (by omega)]; exact (rB_r qh20 _).trans ((rB_r qh33 _).trans ((gm_ite_f e45).trans ((rB_r hend _).trans ((if_pos (by omega)).trans (gm_ite_f (fun R0 => absurd (gm_rL_one Rh228 R0) (by omega))))))), ⟨_, _, _, _, _, _, ⟨_, g2780, g2781, g2782, g2783, g2784⟩, by omega, by omega⟩, BD.ba k282⟩, k279, k280, (((am_f3.rf.tr hf9).tr (am_fr.l Fh228)).tr (am_fr.t Fh277))⟩
            · skip
              refine q_blk (lv2 := [(0, vr t), (2, vi (D 3)), (3, vr (b + 6 + 3 * (Int.toNat (D 3)))), (4, vi i)]) (st2 := [vr t]) kX6_readPolygon_134 rfl ?_
              refine AQ.callVi (av := []) (st := []) (c_X6_seePoint ⟨_, w0, w1, w2, w3, w4⟩ n0 kn (by omega) (by omega) kr vq (by omega) (by omega) hB9 hD9 (by omega)) lk_RX6_176 (by decide) rfl rfl ⟨_, _, _, w0⟩ ⟨_, rfl, rfl⟩ (Nat.le_of_ble_eq_true rfl) eX6_readPolygon_135 (fun z288 h290 e289 => ?_)
              rcases e289 with ⟨⟨rfl, xh290, yh290, qh290, Xh290⟩ | ⟨rfl, eh290, ah290, qh290, Xh290⟩, Fh290⟩
              · skip
                obtain ⟨g291t, g2910, g2911, g2912, g2913, g2914⟩ := id Xh290
                have k292 := (Fh290.2 j (by omega)).trans hJ9
                have k293 := hL9.kept Fh290 (by omega)
                have k294 := (Fh290.2 b (by omega)).trans y0
                have k295 := hB9.kept Fh290 (by omega) (by omega)
                have k296 := (Fh290.2 (b + 1) (by omega)).trans y1
                have k297 := (Fh290.2 (b + 2) (by omega)).trans y2
                have k298 := (Fh290.2 (b + 3) (by omega)).trans y3
                have k299 := (Fh290.2 (b + 4) (by omega)).trans y4
                have k300 := (Fh290.2 (b + 5) (by omega)).trans y5
                have rh290 := rP_r qh290
                have nh290 : e9 + 1 ≠ n := fun e9 => by rw [e9] at rh290; omega
                have mh290 : e9 ≠ n := fun e9 => by rw [e9] at rh290; omega
                have h_xh290 : am_c xh290 := by unfold am_c; omega
                have h_yh290 : am_c yh290 := by unfold am_c; omega
                refine AQ.of (AS.if_ne_t (tgt := 143) eX6_readPolygon_138 (by decide) ⟨by decide, by decide⟩ (by decide)) ?_
                refine q_blk (lv2 := [(0, vr t), (2, vi (D 3)), (3, vr (b + 6 + 3 * (Int.toNat (D 3)))), (4, vi i)]) (st2 := [vr t]) kX6_readPolygon_143 rfl ?_
                refine q_gr eX6_readPolygon_144 fl_RX6_58 (Or.inl ⟨_, rfl⟩) g2910 rfl ?_
                refine q_blk (lv2 := [(0, vr t), (2, vi (D 3)), (3, vr (b + 6 + 3 * (Int.toNat (D 3)))), (4, vi i)]) (st2 := [vr t, vi (D 3), vr j]) kX6_readPolygon_147 rfl ?_
                refine q_gi eX6_readPolygon_149 fl_RX6_34 (Or.inl rfl) g2910 (z := xh290) rfl ?_
                refine q_blk (lv2 := [(0, vr t), (2, vi (D 3)), (3, vr (b + 6 + 3 * (Int.toNat (D 3)))), (4, vi i)]) (st2 := [vr t, vi xh290, vi (D 3), vr j]) kX6_readPolygon_152 rfl ?_
                refine q_gi eX6_readPolygon_153 fl_RX6_31 (Or.inl rfl) g2910 (z := yh290) rfl ?_
                refine AQ.callVi (av := [vi (D 3), vi xh290, vi yh290]) (st := []) (c_X3_reasonOfCorner k292 k295 hD9 hE9 k293 hlj hlb (p := D 3) (by omega) (by omega) h_xh290 h_yh290) lk_RX6_196 (by decide) rfl rfl (JD.ob k292) ⟨_, rfl, rfl⟩ (Nat.le_of_ble_eq_true rfl) eX6_readPolygon_156 (fun z301 h303 e302 => ?_)
                obtain ⟨Rh303, Lh303, Fh303⟩ := e302
                have Qh303 := gm_rC_r Rh303
                have k304 := (Fh303.2 t (by omega)).trans g2910
                have k305 := (Fh303.2 (t + 1) (by omega)).trans g2911
                have k306 := (Fh303.2 (t + 2) (by omega)).trans g2912
                have k307 := (Fh303.2 (t + 3) (by omega)).trans g2913
                have k308 := (Fh303.2 (t + 4) (by omega)).trans g2914
                have k309 := (Fh303.2 j (by omega)).trans k292
                have k310 := (Fh303.2 b (by omega)).trans k294
                have k311 := k295.kept Fh303 (by omega) (by omega)
                have k312 := (Fh303.2 (b + 1) (by omega)).trans k296
                have k313 := (Fh303.2 (b + 2) (by omega)).trans k297
                have k314 := (Fh303.2 (b + 3) (by omega)).trans k298
                have k315 := (Fh303.2 (b + 4) (by omega)).trans k299
                have k316 := (Fh303.2 (b + 5) (by omega)).trans k300
                refine AQ.if_eq (tgt := 169) eX6_readPolygon_159 (by decide) (by first | assumption | exact ⟨by omega, by omega⟩) (fun br317 => ?_) (fun br317 => ?_)
                · skip
                  have R0 := Rh303
                  rw [show z301 = 0 by omega] at R0
                  have r0 := gm_rC_0 R0
                  refine q_blk (lv2 := [(0, vr t), (2, vi (D 3)), (3, vr (b + 6 + 3 * (Int.toNat (D 3)))), (4, vi i)]) (st2 := [vr t, vr t]) kX6_readPolygon_169 rfl ?_
                  refine q_gi eX6_readPolygon_171 fl_RX6_28 (Or.inl rfl) k304 (z := (e9 + 1)) rfl ?_
                  refine q_blk (lv2 := [(0, vr t), (2, vi (D 3)), (3, vr (b + 6 + 3 * (Int.toNat (D 3)))), (4, vi i)]) (st2 := [vi ((e9 + 1) + 1), vr t]) kX6_readPolygon_174 rfl ?_
                  refine q_pi eX6_readPolygon_176 fl_RX6_28 (fun q hq => by cases hq; exact Or.inl rfl) (Or.inl rfl) k304 (Nat.le_of_ble_eq_true rfl) (l2 := [0, 0, 0, 0, 0, 0, 0, g291t, ((e9 + 1) + 1), yh290, xh290, cl, hs, er, ea]) rfl (fun h318 e319 => ?_)
                  have k320 := am_at e319
                  have k321 := (am_ne e319 (t + 1) (by omega)).trans k305
                  have k322 := (am_ne e319 (t + 2) (by omega)).trans k306
                  have k323 := (am_ne e319 (t + 3) (by omega)).trans k307
                  have k324 := (am_ne e319 (t + 4) (by omega)).trans k308
                  have k325 := (am_ne e319 j (by omega)).trans k309
                  have k326 := Lh303.kept (lo := t) (hi := t + 1) (am_fr.st e319 (by omega) (by omega)) (by omega)
                  have k327 := (am_ne e319 b (by omega)).trans k310
                  have k328 := k311.kept (lo := t) (hi := t + 1) (am_fr.st e319 (by omega) (by omega)) (by omega) (by omega)
                  have k329 := (am_ne e319 (b + 1) (by omega)).trans k312
                  have k330 := (am_ne e319 (b + 2) (by omega)).trans k313
                  have k331 := (am_ne e319 (b + 3) (by omega)).trans k314
                  have k332 := (am_ne e319 (b + 4) (by omega)).trans k315
                  have k333 := (am_ne e319 (b + 5) (by omega)).trans k316
                  have v334 := k328.sh (p := D 3) (by omega) (by omega)
                  obtain ⟨v334x, v334y, v334P, v334n, v334c, v334z⟩ := id v334
                  have v334V := hD9.vc (p := D 3) (by omega) (by omega)
                  refine q_blk (lv2 := [(0, vr t), (2, vi (D 3)), (3, vr (b + 6 + 3 * (Int.toNat (D 3)))), (4, vi i)]) (st2 := [vr (b + 6 + 3 * (Int.toNat (D 3))), vr (b + 6 + 3 * (Int.toNat (D 3)))]) kX6_readPolygon_179 rfl ?_
                  refine q_gi eX6_readPolygon_181 fl_RX6_201 (Or.inl rfl) v334P.1 (z := (pN D9 (D 3))) rfl ?_
                  refine q_blk (lv2 := [(0, vr t), (2, vi (D 3)), (3, vr (b + 6 + 3 * (Int.toNat (D 3)))), (4, vi i)]) (st2 := [vr t, vi (pN D9 (D 3)), vr (b + 6 + 3 * (Int.toNat (D 3)))]) kX6_readPolygon_184 rfl ?_
                  refine q_gi eX6_readPolygon_185 fl_RX6_34 (Or.inl rfl) k320 (z := xh290) rfl ?_
                  refine q_blk (lv2 := [(0, vr t), (2, vi (D 3)), (3, vr (b + 6 + 3 * (Int.toNat (D 3)))), (4, vi i)]) (st2 := [vr t, vi xh290, vi (pN D9 (D 3)), vr (b + 6 + 3 * (Int.toNat (D 3)))]) kX6_readPolygon_188 rfl ?_
                  refine q_gi eX6_readPolygon_189 fl_RX6_31 (Or.inl rfl) k320 (z := yh290) rfl ?_
                  refine AQ.callVv (av := [vi (pN D9 (D 3)), vi xh290, vi yh290]) (st := []) (c_X7_insert v334 (by omega) (p := (pN D9 (D 3))) (x := xh290) (y := yh290) (by omega) (by omega)) lk_RX6_206 (by decide) rfl rfl v334.ob ⟨_, rfl, rfl⟩ (Nat.le_of_ble_eq_true rfl) eX6_readPolygon_192 (fun h337 e336 => ?_)
                  obtain ⟨Xh337, Fh337⟩ := e336
                  have Bh337 : BD h337 b (gm_adC D9 (D 3) xh290 yh290) cm sc := k328.setP hD9 (by omega) (by omega) Xh337 Fh337
                  have Gh337 := Fh337.mo (lo' := b) (hi' := b + 24) (by omega) (by omega)
                  have k338 := (Gh337.2 t (by omega)).trans k320
                  have k339 := (Gh337.2 (t + 1) (by omega)).trans k321
                  have k340 := (Gh337.2 (t + 2) (by omega)).trans k322
                  have k341 := (Gh337.2 (t + 3) (by omega)).trans k323
                  have k342 := (Gh337.2 (t + 4) (by omega)).trans k324
                  have k343 := (Gh337.2 j (by omega)).trans k325
                  have k344 := k326.kept Gh337 (by omega)
                  refine q_blk (lv2 := [(0, vr t), (2, vi (D 3)), (3, vr (b + 6 + 3 * (Int.toNat (D 3)))), (4, vi (i + 1))]) (st2 := []) kX6_readPolygon_195 rfl ?_
                  refine q_goto (tgt := 118) eX6_readPolygon_198 (by decide) ?_
                  exact ih88 (i + 1) h337 (gm_adC D9 (D 3) xh290 yh290) ((e9 + 1) + 1) yh290 xh290 (⟨⟨by omega, by omega⟩, by omega, by rw [show 800 - (i + 1).toNat = 800 - i.toNat - 1 by omega, ← hrk]; exact (rK_go (by omega) (by omega) qh290 R0).symm, ⟨_, k338, k339, k340, k341, k342⟩, Bh337, gm_adC_vd hD9 (by omega) (by omega) r0.1 r0.2.1 (by omega) (by omega), gm_adC_ve hD9 hE9 (by omega) (by omega) r0.2.1 r0.2.2, (gm_setP_o (by omega)).trans hT9, gm_setP_c.trans hC9, k343, k344, (((((am_f3.rf.tr hf9).tr (am_fr.t Fh290)).tr (am_fr.l Fh303)).tr (am_fr.t (am_fr.st e319 (by omega) (by omega)))).tr (am_fr.b Gh337))⟩) (by omega)
                · skip
                  refine q_blk (lv2 := [(0, vr t), (2, vi (D 3)), (3, vr (b + 6 + 3 * (Int.toNat (D 3)))), (4, vi i)]) (st2 := [vi (-4), vr t]) kX6_readPolygon_162 rfl ?_
                  refine AQ.callVi (av := [vi (-4)]) (st := []) (c_X6_fail (e := (-4)) ⟨_, k304, k305, k306, k307, k308⟩ (by omega) (by omega)) lk_RX6_83 (by decide) rfl rfl ⟨_, _, _, k304⟩ ⟨_, rfl, rfl⟩ (Nat.le_of_ble_eq_true rfl) eX6_readPolygon_165 (fun z345 h347 e346 => ?_)
                  obtain ⟨z3450, Xh347, Fh347⟩ := e346
                  subst z3450
                  obtain ⟨g348t, g3480, g3481, g3482, g3483, g3484⟩ := id Xh347
                  have k349 := (Fh347.2 j (by omega)).trans k309
                  have k350 := Lh303.kept Fh347 (by omega)
                  have k351 := (Fh347.2 b (by omega)).trans k310
                  have k352 := k311.kept Fh347 (by omega) (by omega)
                  have k353 := (Fh347.2 (b + 1) (by omega)).trans k312
                  have k354 := (Fh347.2 (b + 2) (by omega)).trans k313
                  have k355 := (Fh347.2 (b + 3) (by omega)).trans k314
                  have k356 := (Fh347.2 (b + 4) (by omega)).trans k315
                  have k357 := (Fh347.2 (b + 5) (by omega)).trans k316
                  exact q_rz rfl eX6_readPolygon_168 (by decide) ⟨0, rfl, Or.inr ⟨rfl, _, _, by unfold rG; rw [if_pos (by omega)]; exact (rB_r qh20 _).trans ((rB_r qh33 _).trans ((gm_ite_f e45).trans (rB_l (hrk.symm.trans (rK_x (by omega) (by omega) qh290 (fun R0 => absurd (gm_rC_one Rh303 R0) (by omega)))) _))), ⟨_, _, _, _, _, _, ⟨_, g3480, g3481, g3482, g3483, g3484⟩, by omega, by omega⟩, BD.ba k352⟩, k349, k350, ((((am_f3.rf.tr hf9).tr (am_fr.t Fh290)).tr (am_fr.l Fh303)).tr (am_fr.t Fh347))⟩
              · skip
                have k358 := hB9.kept Fh290 (by omega) (by omega)
                have k359 := (Fh290.2 j (by omega)).trans hJ9
                have k360 := hL9.kept Fh290 (by omega)
                refine AQ.of (AS.if_ne_f eX6_readPolygon_138 ⟨by decide, by decide⟩ (by decide) (by decide)) ?_
                refine q_blk (lv2 := [(0, vr t), (2, vi (D 3)), (3, vr (b + 6 + 3 * (Int.toNat (D 3)))), (4, vi i)]) (st2 := [vi 0]) kX6_readPolygon_141 rfl ?_
                exact q_rz rfl eX6_readPolygon_142 (by decide) ⟨0, rfl, Or.inr ⟨rfl, _, _, by unfold rG; rw [if_pos (by omega)]; exact (rB_r qh20 _).trans ((rB_r qh33 _).trans ((gm_ite_f e45).trans (rB_l (hrk.symm.trans (rK_p (by omega) (by omega) qh290)) _))), Xh290, BD.ba k358⟩, k359, k360, ((am_f3.rf.tr hf9).tr (am_fr.t Fh290))⟩
      · skip
        have k361 := k23.kept Fh33 (by omega) (by omega)
        have k362 := (Fh33.2 j (by omega)).trans k29
        have k363 := k30.kept Fh33 (by omega)
        refine AQ.of (AS.if_ne_f eX6_readPolygon_49 ⟨by decide, by decide⟩ (by decide) (by decide)) ?_
        refine q_blk (lv2 := [(0, vr t), (1, vi (vl (he + 1)))]) (st2 := [vi 0]) kX6_readPolygon_52 rfl ?_
        exact q_rz rfl eX6_readPolygon_53 (by decide) ⟨0, rfl, Or.inr ⟨rfl, _, _, by unfold rG; rw [if_pos (by omega)]; exact ((rB_r qh20 _).trans (rB_l qh33 _)), Xh33, BD.ba k361⟩, k362, k363, (((am_f3.rf.tr (am_fr.t (am_fr.st e3 (by omega) (by omega)))).tr (am_fr.t Fh20)).tr (am_fr.t Fh33))⟩
    · skip
      have k364 := k5.kept Fh20 (by omega) (by omega)
      have k365 := (Fh20.2 j (by omega)).trans k16
      have k366 := k17.kept Fh20 (by omega)
      refine AQ.of (AS.if_ne_f eX6_readPolygon_35 ⟨by decide, by decide⟩ (by decide) (by decide)) ?_
      refine q_blk (lv2 := [(0, vr t)]) (st2 := [vi 0]) kX6_readPolygon_38 rfl ?_
      exact q_rz rfl eX6_readPolygon_39 (by decide) ⟨0, rfl, Or.inr ⟨rfl, _, _, by unfold rG; rw [if_pos (by omega)]; exact (rB_l qh20 _), Xh20, BD.ba k364⟩, k365, k366, ((am_f3.rf.tr (am_fr.t (am_fr.st e3 (by omega) (by omega)))).tr (am_fr.t Fh20))⟩
  · skip
    refine q_blk (lv2 := [(0, vr t)]) (st2 := [vi (-5), vr t]) kX6_readPolygon_12 rfl ?_
    refine AQ.callVi (av := [vi (-5)]) (st := []) (c_X6_fail (e := (-5)) ⟨_, c0, c1, c2, c3, c4⟩ (by omega) (by omega)) lk_RX6_83 (by decide) rfl rfl ⟨_, _, _, c0⟩ ⟨_, rfl, rfl⟩ (Nat.le_of_ble_eq_true rfl) eX6_readPolygon_15 (fun z367 h369 e368 => ?_)
    obtain ⟨z3670, Xh369, Fh369⟩ := e368
    subst z3670
    obtain ⟨g370t, g3700, g3701, g3702, g3703, g3704⟩ := id Xh369
    have k371 := (Fh369.2 b (by omega)).trans b0
    have k372 := hB.kept Fh369 (by omega) (by omega)
    have k373 := (Fh369.2 (b + 1) (by omega)).trans b1
    have k374 := (Fh369.2 (b + 2) (by omega)).trans b2
    have k375 := (Fh369.2 (b + 3) (by omega)).trans b3
    have k376 := (Fh369.2 (b + 4) (by omega)).trans b4
    have k377 := (Fh369.2 (b + 5) (by omega)).trans b5
    have k378 := (Fh369.2 j (by omega)).trans hJ0
    have k379 := hLJ.kept Fh369 (by omega)
    exact q_rz rfl eX6_readPolygon_18 (by decide) ⟨0, rfl, Or.inr ⟨rfl, _, _, by unfold rG; rw [if_neg (by omega)], ⟨_, _, _, _, _, _, ⟨_, g3700, g3701, g3702, g3703, g3704⟩, by omega, by omega⟩, BD.ba k372⟩, k378, k379, (am_f3.rf.tr (am_fr.t Fh369))⟩
