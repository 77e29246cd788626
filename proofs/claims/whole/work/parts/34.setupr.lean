/-! CornerClaims$Setup: stones and polygons. -/
/-- changes of the reader, of its board, of the line only -/
def am_f3 (h h1 : AH) (t b l : Nat) : Prop := h1.2 = h.2 ∧ ∀ q, ¬ (t ≤ q ∧ q < t + 5) → ¬ (b ≤ q ∧ q < b + 24) → q ≠ l → h1.1 q = h.1 q
theorem am_f3.rf {h : AH} {t b l : Nat} : am_f3 h h t b l := ⟨rfl, fun _ _ _ _ => rfl⟩
theorem am_f3.tr {h h1 h2 : AH} {t b l : Nat} (f : am_f3 h h1 t b l) (g : am_f3 h1 h2 t b l) : am_f3 h h2 t b l := ⟨g.1.trans f.1, fun q a b c => (g.2 q a b c).trans (f.2 q a b c)⟩
theorem am_fr.t {h h1 : AH} {t b l : Nat} (f : am_fr h h1 t (t + 5)) : am_f3 h h1 t b l := ⟨f.1, fun q a _ _ => f.2 q a⟩
theorem am_fr.b {h h1 : AH} {t b l : Nat} (f : am_fr h h1 b (b + 24)) : am_f3 h h1 t b l := ⟨f.1, fun q _ a _ => f.2 q a⟩
theorem am_fr.l {h h1 : AH} {t b l : Nat} (f : am_fr h h1 l (l + 1)) : am_f3 h h1 t b l := ⟨f.1, fun q _ _ a => f.2 q (fun z => a (by omega))⟩
theorem am_f3.mid {h h1 : AH} {t b l : Nat} (f : am_f3 h h1 t b l) : ∃ h2 h3, am_fr h h2 t (t + 5) ∧ am_fr h2 h3 b (b + 24) ∧ am_fr h3 h1 l (l + 1) := by
  refine ⟨(fun q => if t ≤ q ∧ q < t + 5 then h1.1 q else h.1 q, h.2), (fun q => if (t ≤ q ∧ q < t + 5) ∨ (b ≤ q ∧ q < b + 24) then h1.1 q else h.1 q, h.2), ⟨rfl, fun q a => ?_⟩, ⟨rfl, fun q a => ?_⟩, ⟨f.1, fun q a => ?_⟩⟩
  · exact if_neg a
  · show (if (t ≤ q ∧ q < t + 5) ∨ (b ≤ q ∧ q < b + 24) then h1.1 q else h.1 q) = if t ≤ q ∧ q < t + 5 then h1.1 q else h.1 q
    by_cases c : t ≤ q ∧ q < t + 5
    · rw [if_pos (Or.inl c), if_pos c]
    · rw [if_neg (fun z => z.elim c a), if_neg c]
  · show h1.1 q = if (t ≤ q ∧ q < t + 5) ∨ (b ≤ q ∧ q < b + 24) then h1.1 q else h.1 q
    by_cases c : (t ≤ q ∧ q < t + 5) ∨ (b ≤ q ∧ q < b + 24)
    · rw [if_pos c]
    · rw [if_neg c]
      exact f.2 q (fun z => c (Or.inl z)) (fun z => c (Or.inr z)) (fun z => a (by omega))
/-- by cases, decidable or not -/
noncomputable def gm_ite {A : Type} (P : Prop) (a b : A) : A := @ite A P (Classical.propDecidable P) a b
theorem gm_ite_t {A : Type} {P : Prop} {a b : A} (h : P) : gm_ite P a b = a := @if_pos P (Classical.propDecidable P) h A a b
theorem gm_ite_f {A : Type} {P : Prop} {a b : A} (h : ¬ P) : gm_ite P a b = b := @if_neg P (Classical.propDecidable P) h A a b
/-- a stone is read: the board with it -/
noncomputable def rS (kd st vl : Int → Int) (D : Int → Int) (he : Int) : (Int × Int) ⊕ (Int → Int) := if D 2 < 20 then rB (rP kd st vl (D 0) (D 1) (he + 1)) (fun q => gm_ite (gm_oc D q.1 q.2) (.inl (-4, st (he + 1 + 1))) (rB (rN kd st vl 1 99 (he + 1 + 1 + 1)) fun v => rB (rT kd st 59 (he + 1 + 1 + 1 + 1)) fun _ => .inr (gm_addS D q.1 q.2 v))) else .inl (-5, st he)
theorem rP_r {kd st vl : Int → Int} {w hh he x y : Int} (h : rP kd st vl w hh he = .inr (x, y)) : kd he = 2 ∧ kd (he + 1) = 2 ∧ x = vl he ∧ y = vl (he + 1) ∧ (0 ≤ x ∧ x ≤ w) ∧ (0 ≤ y ∧ y ≤ hh) := by
  unfold rP rB at h
  split at h
  · cases h
  · rename_i x' hx
    split at h
    · cases h
    · rename_i y' hy
      cases h
      have a := rN_r hx
      have b := rN_r hy
      exact ⟨a.1, b.1, a.2.1, b.2.1, a.2.2, b.2.2⟩

set_option maxHeartbeats 1000000 in
theorem c_X6_readStone {w : am_w} {h : AH} {t u b j : Nat} {kd st vl : Int → Int} {he nu px cl hs er ea : Int} {cd : Int → Int} (hS : SU h t u b j kd st vl he nu px cl hs er ea cd) {l : Nat} {n : Int} (n0 : n ≤ 800) (kn : kd n = 0) (he0 : 0 ≤ he) (he1 : he ≤ n) (kr : ∀ i, 0 ≤ i → i < 801 → -5 ≤ kd i ∧ kd i ≤ 100) (vq : ∀ i, 0 ≤ i → i < 801 → 0 ≤ vl i ∧ vl i ≤ 10000) (cl0 : 0 ≤ cl) (cl1 : cl ≤ 800) {D cm : Int → Int} {sc : Nat} (hB : BD h b D cm sc) (hD : VD D) (hd : t + 5 ≤ b ∨ b + 24 ≤ t) (hk : kd he ≠ 0)  : AE w m_X6_readStone 5 [vr t] h (am_int (fun z h1 => ((z = 1 ∧ ∃ D', rS kd st vl D he = .inr D' ∧ (∃ nu' px', SU h1 t u b j kd st vl (he + 1 + 1 + 1 + 1 + 1) nu' px' cl hs er ea cd) ∧ BD h1 b D' cm sc) ∨ (z = 0 ∧ ∃ e a, rS kd st vl D he = .inl (e, a) ∧ SF h1 t u b j kd st vl e a ∧ BA h1 b)) ∧ am_f3 h h1 t b l)) := by
  refine AE.of wf_X6_readStone (Nat.le_of_ble_eq_true rfl) (am_ok_z (fun z h1 q => by rcases q.1 with q | q; exact Or.inr q.1; exact Or.inl q.1)) ?_
  obtain ⟨tc, c0, c1, c2, c3, c4⟩ := id hS
  obtain ⟨⟨sx, sy, sv, ⟨b0, b1, b2, b3, b4, b5⟩, hst⟩, hall, hsh⟩ := id hB
  have d0 := hD.1
  have d1 := hD.2.1
  have d2 := hD.2.2.1
  have d3 := hD.2.2.2.1
  have hen : he ≠ n := fun e9 => by rw [e9] at hk; omega
  refine q_blk (lv2 := [(0, vr t)]) (st2 := [vr t]) kX6_readStone_0 rfl ?_
  refine q_gr eX6_readStone_1 fl_RX6_54 (Or.inl ⟨_, rfl⟩) c0 rfl ?_
  refine q_gi eX6_readStone_4 fl_RX6_173 (Or.inl rfl) b0 (z := (D 2)) rfl ?_
  refine q_blk (lv2 := [(0, vr t)]) (st2 := [vi 20, vi (D 2)]) kX6_readStone_7 rfl ?_
  refine AQ.ic_lt (tgt := 19) eX6_readStone_9 (by decide) (by first | assumption | exact ⟨by omega, by omega⟩) ⟨by decide, by decide⟩ (fun br1 => ?_) (fun br1 => ?_)
  · skip
    refine q_blk (lv2 := [(0, vr t)]) (st2 := [vr t, vr t]) kX6_readStone_19 rfl ?_
    refine q_gi eX6_readStone_21 fl_RX6_28 (Or.inl rfl) c0 (z := he) rfl ?_
    refine q_blk (lv2 := [(0, vr t)]) (st2 := [vi (he + 1), vr t]) kX6_readStone_24 rfl ?_
    refine q_pi eX6_readStone_26 fl_RX6_28 (fun q hq => by cases hq; exact Or.inl rfl) (Or.inl rfl) c0 (Nat.le_of_ble_eq_true rfl) (l2 := [0, 0, 0, 0, 0, 0, 0, tc, (he + 1), nu, px, cl, hs, er, ea]) rfl (fun h2 e3 => ?_)
    have k4 := (am_ne e3 b (by omega)).trans b0
    have k5 := hB.kept (lo := t) (hi := t + 1) (am_fr.st e3 (by omega) (by omega)) (by omega) (by omega)
    have k6 := (am_ne e3 (b + 1) (by omega)).trans b1
    have k7 := (am_ne e3 (b + 2) (by omega)).trans b2
    have k8 := (am_ne e3 (b + 3) (by omega)).trans b3
    have k9 := (am_ne e3 (b + 4) (by omega)).trans b4
    have k10 := (am_ne e3 (b + 5) (by omega)).trans b5
    have k11 := am_at e3
    have k12 := (am_ne e3 (t + 1) (by omega)).trans c1
    have k13 := (am_ne e3 (t + 2) (by omega)).trans c2
    have k14 := (am_ne e3 (t + 3) (by omega)).trans c3
    have k15 := (am_ne e3 (t + 4) (by omega)).trans c4
    refine q_blk (lv2 := [(0, vr t)]) (st2 := [vr t]) kX6_readStone_29 rfl ?_
    refine AQ.callVi (av := []) (st := []) (c_X6_seePoint ⟨_, k11, k12, k13, k14, k15⟩ n0 kn (by omega) (by omega) kr vq (by omega) (by omega) k5 hD (by omega)) lk_RX6_176 (by decide) rfl rfl ⟨_, _, _, k11⟩ ⟨_, rfl, rfl⟩ (Nat.le_of_ble_eq_true rfl) eX6_readStone_30 (fun z16 h18 e17 => ?_)
    rcases e17 with ⟨⟨rfl, xh18, yh18, qh18, Xh18⟩ | ⟨rfl, eh18, ah18, qh18, Xh18⟩, Fh18⟩
    · skip
      obtain ⟨g19t, g190, g191, g192, g193, g194⟩ := id Xh18
      have k20 := (Fh18.2 b (by omega)).trans k4
      have k21 := k5.kept Fh18 (by omega) (by omega)
      have k22 := (Fh18.2 (b + 1) (by omega)).trans k6
      have k23 := (Fh18.2 (b + 2) (by omega)).trans k7
      have k24 := (Fh18.2 (b + 3) (by omega)).trans k8
      have k25 := (Fh18.2 (b + 4) (by omega)).trans k9
      have k26 := (Fh18.2 (b + 5) (by omega)).trans k10
      have rh18 := rP_r qh18
      have nh18 : (he + 1) + 1 ≠ n := fun e9 => by rw [e9] at rh18; omega
      have mh18 : (he + 1) ≠ n := fun e9 => by rw [e9] at rh18; omega
      have h_xh18 : am_c xh18 := by unfold am_c; omega
      have h_yh18 : am_c yh18 := by unfold am_c; omega
      refine AQ.of (AS.if_ne_t (tgt := 38) eX6_readStone_33 (by decide) ⟨by decide, by decide⟩ (by decide)) ?_
      refine q_blk (lv2 := [(0, vr t)]) (st2 := [vr t]) kX6_readStone_38 rfl ?_
      refine q_gi eX6_readStone_39 fl_RX6_31 (Or.inl rfl) g190 (z := yh18) rfl ?_
      refine q_blk (lv2 := [(0, vr t), (1, vi yh18)]) (st2 := [vr t]) kX6_readStone_42 rfl ?_
      refine q_gr eX6_readStone_44 fl_RX6_54 (Or.inl ⟨_, rfl⟩) g190 rfl ?_
      refine q_blk (lv2 := [(0, vr t), (1, vi yh18)]) (st2 := [vr t, vr b]) kX6_readStone_47 rfl ?_
      refine q_gi eX6_readStone_48 fl_RX6_34 (Or.inl rfl) g190 (z := xh18) rfl ?_
      refine q_blk (lv2 := [(0, vr t), (1, vi yh18)]) (st2 := [vi yh18, vi xh18, vr b]) kX6_readStone_51 rfl ?_
      refine q_Vi (av := [vi xh18, vi yh18]) (st := []) (c_X0_isOccupied k21 hD h_xh18 h_yh18) lk_RX6_179 (by decide) rfl rfl k21.ob ⟨_, rfl, rfl⟩ (Nat.le_of_ble_eq_true rfl) eX6_readStone_52 (fun z27 e28 => ?_)
      rcases e28 with ⟨rfl, e28⟩ | ⟨rfl, e28⟩
      · skip
        refine AQ.of (AS.if_eq_f eX6_readStone_55 ⟨by decide, by decide⟩ (by decide) (by decide)) ?_
        refine q_blk (lv2 := [(0, vr t), (1, vi yh18)]) (st2 := [vi (-4), vr t]) kX6_readStone_58 rfl ?_
        refine AQ.callVi (av := [vi (-4)]) (st := []) (c_X6_fail (e := (-4)) ⟨_, g190, g191, g192, g193, g194⟩ (by omega) (by omega)) lk_RX6_83 (by decide) rfl rfl ⟨_, _, _, g190⟩ ⟨_, rfl, rfl⟩ (Nat.le_of_ble_eq_true rfl) eX6_readStone_61 (fun z29 h31 e30 => ?_)
        obtain ⟨z290, Xh31, Fh31⟩ := e30
        subst z290
        obtain ⟨g32t, g320, g321, g322, g323, g324⟩ := id Xh31
        have k33 := (Fh31.2 b (by omega)).trans k20
        have k34 := k21.kept Fh31 (by omega) (by omega)
        have k35 := (Fh31.2 (b + 1) (by omega)).trans k22
        have k36 := (Fh31.2 (b + 2) (by omega)).trans k23
        have k37 := (Fh31.2 (b + 3) (by omega)).trans k24
        have k38 := (Fh31.2 (b + 4) (by omega)).trans k25
        have k39 := (Fh31.2 (b + 5) (by omega)).trans k26
        exact q_rz rfl eX6_readStone_64 (by decide) ⟨0, rfl, Or.inr ⟨rfl, _, _, by unfold rS; rw [if_pos (by omega)]; exact (rB_r qh18 _).trans (gm_ite_t e28), ⟨_, _, _, _, _, _, ⟨_, g320, g321, g322, g323, g324⟩, by omega, by omega⟩, BD.ba k34⟩, (((am_f3.rf.tr (am_fr.t (am_fr.st e3 (by omega) (by omega)))).tr (am_fr.t Fh18)).tr (am_fr.t Fh31))⟩
      · skip
        refine AQ.of (AS.if_eq_t (tgt := 65) eX6_readStone_55 (by decide) ⟨by decide, by decide⟩ (by decide)) ?_
        refine q_blk (lv2 := [(0, vr t), (1, vi yh18)]) (st2 := [vr t, vr t]) kX6_readStone_65 rfl ?_
        refine q_gi eX6_readStone_67 fl_RX6_28 (Or.inl rfl) g190 (z := ((he + 1) + 1)) rfl ?_
        refine q_blk (lv2 := [(0, vr t), (1, vi yh18)]) (st2 := [vi (((he + 1) + 1) + 1), vr t]) kX6_readStone_70 rfl ?_
        refine q_pi eX6_readStone_72 fl_RX6_28 (fun q hq => by cases hq; exact Or.inl rfl) (Or.inl rfl) g190 (Nat.le_of_ble_eq_true rfl) (l2 := [0, 0, 0, 0, 0, 0, 0, g19t, (((he + 1) + 1) + 1), yh18, xh18, cl, hs, er, ea]) rfl (fun h40 e41 => ?_)
        have k42 := (am_ne e41 b (by omega)).trans k20
        have k43 := k21.kept (lo := t) (hi := t + 1) (am_fr.st e41 (by omega) (by omega)) (by omega) (by omega)
        have k44 := (am_ne e41 (b + 1) (by omega)).trans k22
        have k45 := (am_ne e41 (b + 2) (by omega)).trans k23
        have k46 := (am_ne e41 (b + 3) (by omega)).trans k24
        have k47 := (am_ne e41 (b + 4) (by omega)).trans k25
        have k48 := (am_ne e41 (b + 5) (by omega)).trans k26
        have k49 := am_at e41
        have k50 := (am_ne e41 (t + 1) (by omega)).trans g191
        have k51 := (am_ne e41 (t + 2) (by omega)).trans g192
        have k52 := (am_ne e41 (t + 3) (by omega)).trans g193
        have k53 := (am_ne e41 (t + 4) (by omega)).trans g194
        refine q_blk (lv2 := [(0, vr t), (1, vi yh18)]) (st2 := [vi 99, vi 1, vr t]) kX6_readStone_75 rfl ?_
        refine AQ.callVi (av := [vi 1, vi 99]) (st := []) (c_X6_takeNumber ⟨_, k49, k50, k51, k52, k53⟩ (by omega) (by omega) kr vq (by omega) (by omega) (lo := 1) (hi := 99) (by omega) (by omega) (by omega) (by omega)) lk_RX6_160 (by decide) rfl rfl ⟨_, _, _, k49⟩ ⟨_, rfl, rfl⟩ (Nat.le_of_ble_eq_true rfl) eX6_readStone_79 (fun z54 h56 e55 => ?_)
        rcases e55 with ⟨⟨rfl, qh56, Xh56⟩ | ⟨rfl, eh56, ah56, qh56, Xh56⟩, Fh56⟩
        · skip
          obtain ⟨g57t, g570, g571, g572, g573, g574⟩ := id Xh56
          have k58 := (Fh56.2 b (by omega)).trans k42
          have k59 := k43.kept Fh56 (by omega) (by omega)
          have k60 := (Fh56.2 (b + 1) (by omega)).trans k44
          have k61 := (Fh56.2 (b + 2) (by omega)).trans k45
          have k62 := (Fh56.2 (b + 3) (by omega)).trans k46
          have k63 := (Fh56.2 (b + 4) (by omega)).trans k47
          have k64 := (Fh56.2 (b + 5) (by omega)).trans k48
          have rh56 := rN_r qh56
          have nh56 : (((he + 1) + 1) + 1) ≠ n := fun e9 => by rw [e9] at rh56; omega
          refine AQ.of (AS.if_ne_t (tgt := 87) eX6_readStone_82 (by decide) ⟨by decide, by decide⟩ (by decide)) ?_
          refine q_blk (lv2 := [(0, vr t), (1, vi yh18)]) (st2 := [vr t]) kX6_readStone_87 rfl ?_
          refine q_gr eX6_readStone_88 fl_RX6_54 (Or.inl ⟨_, rfl⟩) g570 rfl ?_
          refine q_blk (lv2 := [(0, vr t), (1, vi yh18)]) (st2 := [vr t, vr b]) kX6_readStone_91 rfl ?_
          refine q_gi eX6_readStone_92 fl_RX6_34 (Or.inl rfl) g570 (z := xh18) rfl ?_
          refine q_blk (lv2 := [(0, vr t), (1, vi yh18)]) (st2 := [vr t, vi yh18, vi xh18, vr b]) kX6_readStone_95 rfl ?_
          refine q_gi eX6_readStone_97 fl_RX6_31 (Or.inl rfl) g570 (z := (vl (((he + 1) + 1) + 1))) rfl ?_
          refine AQ.callVv (av := [vi xh18, vi yh18, vi (vl (((he + 1) + 1) + 1))]) (st := []) (c_X0_addStone k59 hD (by omega) (x := xh18) (y := yh18) (v := (vl (((he + 1) + 1) + 1)))) lk_RX6_182 (by decide) rfl rfl k59.ob ⟨_, rfl, rfl⟩ (Nat.le_of_ble_eq_true rfl) eX6_readStone_100 (fun h67 e66 => ?_)
          obtain ⟨Xh67, Fh67⟩ := e66
          have k68 := (Fh67.2 t (by omega)).trans g570
          have k69 := (Fh67.2 (t + 1) (by omega)).trans g571
          have k70 := (Fh67.2 (t + 2) (by omega)).trans g572
          have k71 := (Fh67.2 (t + 3) (by omega)).trans g573
          have k72 := (Fh67.2 (t + 4) (by omega)).trans g574
          have Vh67 := gm_addS_vd hD (x := xh18) (y := yh18) (v := (vl (((he + 1) + 1) + 1))) (by omega) (by omega) (by omega) (by omega)
          have Wh67 := Vh67.2.2.2.1
          obtain ⟨⟨u0, u1, u2, ⟨y0, y1, y2, y3, y4, y5⟩, ust⟩, uall, ush⟩ := id Xh67
          refine q_blk (lv2 := [(0, vr t), (1, vi yh18)]) (st2 := [vi 59, vr t]) kX6_readStone_103 rfl ?_
          refine AQ.callVi (av := [vi 59]) (st := []) (c_X6_take ⟨_, k68, k69, k70, k71, k72⟩ (by omega) (by omega) kr vq (k := 59) (by omega) (by omega)) lk_RX6_166 (by decide) rfl rfl ⟨_, _, _, k68⟩ ⟨_, rfl, rfl⟩ (Nat.le_of_ble_eq_true rfl) eX6_readStone_106 (fun z73 h75 e74 => ?_)
          rcases e74 with ⟨⟨rfl, qh75, Xh75⟩ | ⟨rfl, qh75, Xh75⟩, Fh75⟩
          · skip
            obtain ⟨g76t, g760, g761, g762, g763, g764⟩ := id Xh75
            have k77 := (Fh75.2 b (by omega)).trans y0
            have k78 := Xh67.kept Fh75 (by omega) (by omega)
            have k79 := (Fh75.2 (b + 1) (by omega)).trans y1
            have k80 := (Fh75.2 (b + 2) (by omega)).trans y2
            have k81 := (Fh75.2 (b + 3) (by omega)).trans y3
            have k82 := (Fh75.2 (b + 4) (by omega)).trans y4
            have k83 := (Fh75.2 (b + 5) (by omega)).trans y5
            have nh75 : ((((he + 1) + 1) + 1) + 1) ≠ n := fun e9 => by rw [e9] at qh75; omega
            exact q_rz rfl eX6_readStone_109 (by decide) ⟨1, rfl, Or.inl ⟨rfl, _, by unfold rS; rw [if_pos (by omega)]; exact (rB_r qh18 _).trans ((gm_ite_f e28).trans ((rB_r qh56 _).trans (rB_r (show rT kd st 59 ((((he + 1) + 1) + 1) + 1) = .inr () by unfold rT; rw [if_pos qh75]) _))), ⟨_, _, ⟨_, g760, g761, g762, g763, g764⟩⟩, k78⟩, ((((((am_f3.rf.tr (am_fr.t (am_fr.st e3 (by omega) (by omega)))).tr (am_fr.t Fh18)).tr (am_fr.t (am_fr.st e41 (by omega) (by omega)))).tr (am_fr.t Fh56)).tr (am_fr.b Fh67)).tr (am_fr.t Fh75))⟩
          · skip
            obtain ⟨g84t, g840, g841, g842, g843, g844⟩ := id Xh75
            have k85 := (Fh75.2 b (by omega)).trans y0
            have k86 := Xh67.kept Fh75 (by omega) (by omega)
            have k87 := (Fh75.2 (b + 1) (by omega)).trans y1
            have k88 := (Fh75.2 (b + 2) (by omega)).trans y2
            have k89 := (Fh75.2 (b + 3) (by omega)).trans y3
            have k90 := (Fh75.2 (b + 4) (by omega)).trans y4
            have k91 := (Fh75.2 (b + 5) (by omega)).trans y5
            exact q_rz rfl eX6_readStone_109 (by decide) ⟨0, rfl, Or.inr ⟨rfl, _, _, by unfold rS; rw [if_pos (by omega)]; exact (rB_r qh18 _).trans ((gm_ite_f e28).trans ((rB_r qh56 _).trans (rB_l (show rT kd st 59 ((((he + 1) + 1) + 1) + 1) = .inl (-2, st ((((he + 1) + 1) + 1) + 1)) by unfold rT; rw [if_neg qh75]) _))), ⟨_, _, _, _, _, _, ⟨_, g840, g841, g842, g843, g844⟩, by omega, by omega⟩, BD.ba k86⟩, ((((((am_f3.rf.tr (am_fr.t (am_fr.st e3 (by omega) (by omega)))).tr (am_fr.t Fh18)).tr (am_fr.t (am_fr.st e41 (by omega) (by omega)))).tr (am_fr.t Fh56)).tr (am_fr.b Fh67)).tr (am_fr.t Fh75))⟩
        · skip
          have k92 := k43.kept Fh56 (by omega) (by omega)
          refine AQ.of (AS.if_ne_f eX6_readStone_82 ⟨by decide, by decide⟩ (by decide) (by decide)) ?_
          refine q_blk (lv2 := [(0, vr t), (1, vi yh18)]) (st2 := [vi 0]) kX6_readStone_85 rfl ?_
          exact q_rz rfl eX6_readStone_86 (by decide) ⟨0, rfl, Or.inr ⟨rfl, _, _, by unfold rS; rw [if_pos (by omega)]; exact (rB_r qh18 _).trans ((gm_ite_f e28).trans (rB_l qh56 _)), Xh56, BD.ba k92⟩, ((((am_f3.rf.tr (am_fr.t (am_fr.st e3 (by omega) (by omega)))).tr (am_fr.t Fh18)).tr (am_fr.t (am_fr.st e41 (by omega) (by omega)))).tr (am_fr.t Fh56))⟩
    · skip
      have k93 := k5.kept Fh18 (by omega) (by omega)
      refine AQ.of (AS.if_ne_f eX6_readStone_33 ⟨by decide, by decide⟩ (by decide) (by decide)) ?_
      refine q_blk (lv2 := [(0, vr t)]) (st2 := [vi 0]) kX6_readStone_36 rfl ?_
      exact q_rz rfl eX6_readStone_37 (by decide) ⟨0, rfl, Or.inr ⟨rfl, _, _, by unfold rS; rw [if_pos (by omega)]; exact (rB_l qh18 _), Xh18, BD.ba k93⟩, ((am_f3.rf.tr (am_fr.t (am_fr.st e3 (by omega) (by omega)))).tr (am_fr.t Fh18))⟩
  · skip
    refine q_blk (lv2 := [(0, vr t)]) (st2 := [vi (-5), vr t]) kX6_readStone_12 rfl ?_
    refine AQ.callVi (av := [vi (-5)]) (st := []) (c_X6_fail (e := (-5)) ⟨_, c0, c1, c2, c3, c4⟩ (by omega) (by omega)) lk_RX6_83 (by decide) rfl rfl ⟨_, _, _, c0⟩ ⟨_, rfl, rfl⟩ (Nat.le_of_ble_eq_true rfl) eX6_readStone_15 (fun z94 h96 e95 => ?_)
    obtain ⟨z940, Xh96, Fh96⟩ := e95
    subst z940
    obtain ⟨g97t, g970, g971, g972, g973, g974⟩ := id Xh96
    have k98 := (Fh96.2 b (by omega)).trans b0
    have k99 := hB.kept Fh96 (by omega) (by omega)
    have k100 := (Fh96.2 (b + 1) (by omega)).trans b1
    have k101 := (Fh96.2 (b + 2) (by omega)).trans b2
    have k102 := (Fh96.2 (b + 3) (by omega)).trans b3
    have k103 := (Fh96.2 (b + 4) (by omega)).trans b4
    have k104 := (Fh96.2 (b + 5) (by omega)).trans b5
    exact q_rz rfl eX6_readStone_18 (by decide) ⟨0, rfl, Or.inr ⟨rfl, _, _, by unfold rS; rw [if_neg (by omega)], ⟨_, _, _, _, _, _, ⟨_, g970, g971, g972, g973, g974⟩, by omega, by omega⟩, BD.ba k99⟩, (am_f3.rf.tr (am_fr.t Fh96))⟩

theorem gm_lr_one {D : Int → Int} {lp lc l1 l2 ax ay bx by' z z' : Int} (h : gm_lr D lp lc l1 l2 ax ay bx by' z) (h' : gm_lr D lp lc l1 l2 ax ay bx by' z') : z = z' := by
  rcases h with ⟨a, e⟩ | ⟨a, ⟨c, e⟩ | ⟨c, e⟩⟩ <;> rcases h' with ⟨a', e'⟩ | ⟨a', ⟨c', e'⟩ | ⟨c', e'⟩⟩ <;> first | exact e.trans e'.symm | contradiction
theorem gm_rC_one {D : Int → Int} {p x y z z' : Int} (h : gm_rC D p x y z) (h' : gm_rC D p x y z') : z = z' := by
  rcases h with ⟨a, e⟩ | ⟨a, ⟨b, e⟩ | ⟨b, ⟨c, e⟩ | ⟨c, e⟩⟩⟩ <;> rcases h' with ⟨a', e'⟩ | ⟨a', ⟨b', e'⟩ | ⟨b', ⟨c', e'⟩ | ⟨c', e'⟩⟩⟩ <;> first | exact e.trans e'.symm | (exfalso; omega) | contradiction | exact gm_lr_one e e'
theorem gm_rL_one {D : Int → Int} {p z z' : Int} (h : gm_rL D p z) (h' : gm_rL D p z') : z = z' := by
  rcases h with ⟨a, e⟩ | ⟨a, ⟨b, e⟩ | ⟨b, e⟩⟩ <;> rcases h' with ⟨a', e'⟩ | ⟨a', ⟨b', e'⟩ | ⟨b', e'⟩⟩ <;> first | exact e.trans e'.symm | (exfalso; omega) | exact gm_lr_one e e'
theorem gm_rC_r {D : Int → Int} {p x y z : Int} (h : gm_rC D p x y z) : 0 ≤ z ∧ z ≤ 6 := by
  rcases h with ⟨a, e⟩ | ⟨a, ⟨b, e⟩ | ⟨b, ⟨c, e⟩ | ⟨c, e⟩⟩⟩
  · omega
  · omega
  · omega
  · have := gm_lr_r e; omega
theorem gm_rL_r {D : Int → Int} {p z : Int} (h : gm_rL D p z) : 0 ≤ z ∧ z ≤ 6 := by
  rcases h with ⟨a, e⟩ | ⟨a, ⟨b, e⟩ | ⟨b, e⟩⟩
  · omega
  · omega
  · have := gm_lr_r e; omega
theorem gm_rC_0 {D : Int → Int} {p x y : Int} (h : gm_rC D p x y 0) : pC D p = 0 ∧ pN D p < 12 ∧ ¬ gm_tk D x y := by
  rcases h with ⟨a, e⟩ | ⟨a, ⟨b, e⟩ | ⟨b, ⟨c, e⟩ | ⟨c, e⟩⟩⟩
  · omega
  · omega
  · omega
  · exact ⟨a, b, c⟩
theorem gm_rL_0 {D : Int → Int} {p : Int} (h : gm_rL D p 0) : pC D p = 0 ∧ 3 ≤ pN D p := by
  rcases h with ⟨a, e⟩ | ⟨a, ⟨b, e⟩ | ⟨b, e⟩⟩
  · omega
  · omega
  · exact ⟨a, b⟩
/-- a polygon with a corner more; closed -/
def gm_adC (D : Int → Int) (p x y : Int) : Int → Int := gm_setP D p (pN D p + 1) (pC D p) (gm_in (pN D p) x (pX D p)) (gm_in (pN D p) y (pY D p))
def gm_clP (D : Int → Int) (p : Int) : Int → Int := gm_setP D p (pN D p) 1 (pX D p) (pY D p)
theorem gm_adC_vd {D : Int → Int} (hD : VD D) {p x y : Int} (p0 : 0 ≤ p) (p1 : p < D 3) (hc : pC D p = 0) (hn : pN D p < 12) (hx : 0 ≤ x ∧ x ≤ D 0) (hy : 0 ≤ y ∧ y ≤ D 1) : VD (gm_adC D p x y) := by
  have h := hD.2.2.2.2.2 p p0 p1
  exact gm_setP_vd hD p0 (by omega) (Or.inl hc) (gm_in_vd hx hy (by omega) (by omega) h.2.2.2)
theorem gm_adC_ve {D : Int → Int} (hD : VD D) (hE : VE D) {p x y : Int} (p0 : 0 ≤ p) (p1 : p < D 3) (hn : pN D p < 12) (ht : ¬ gm_tk D x y) : VE (gm_adC D p x y) := by
  have h := hD.2.2.2.2.2 p p0 p1
  exact gm_setP_ve hD hE p0 (by omega) (gm_in_ve (by omega) (by omega) (fun k k0 k1 => by have := gm_tk_ne ht p0 p1 k0 k1; omega) (fun k m k0 km m1 => hE p k m p0 p1 k0 km m1))
theorem gm_clP_vd {D : Int → Int} (hD : VD D) {p : Int} (p0 : 0 ≤ p) (p1 : p < D 3) (hn : 3 ≤ pN D p) : VD (gm_clP D p) := by
  have h := hD.2.2.2.2.2 p p0 p1
  exact gm_setP_vd hD p0 (by omega) (Or.inr ⟨rfl, hn⟩) h.2.2.2
theorem gm_clP_ve {D : Int → Int} (hD : VD D) (hE : VE D) {p : Int} (p0 : 0 ≤ p) (p1 : p < D 3) : VE (gm_clP D p) := by
  have h := hD.2.2.2.2.2 p p0 p1
  exact gm_setP_ve hD hE p0 (by omega) (fun k m k0 km m1 => hE p k m p0 p1 k0 km m1)
/-- corners are read, as long as numbers are there -/
noncomputable def rK (kd st vl : Int → Int) (p : Int) : Nat → (Int → Int) → Int → (Int × Int) ⊕ ((Int → Int) × Int)
  | 0, D, he => .inr (D, he)
  | f + 1, D, he => if kd he = 2 then rB (rP kd st vl (D 0) (D 1) he) (fun q => gm_ite (gm_rC D p q.1 q.2 0) (rK kd st vl p f (gm_adC D p q.1 q.2) (he + 1 + 1)) (.inl (-4, st (he + 1)))) else .inr (D, he)
/-- a polygon is read -/
noncomputable def rG (kd st vl : Int → Int) (D : Int → Int) (he : Int) : (Int × Int) ⊕ ((Int → Int) × Int) := if D 3 < 6 then rB (rN kd st vl 0 3 (he + 1)) (fun o => rB (rP kd st vl (D 0) (D 1) (he + 1 + 1)) fun q => gm_ite (gm_oc D q.1 q.2) (.inl (-4, st (he + 1 + 1 + 1))) (rB (rK kd st vl (D 3) 800 (gm_stP D o q.1 q.2) (he + 1 + 1 + 1 + 1)) fun r => if kd r.2 = 59 then gm_ite (gm_rL r.1 (D 3) 0) (.inr (gm_clP r.1 (D 3), r.2 + 1)) (.inl (-4, st r.2)) else .inl (-2, st r.2))) else .inl (-5, st he)
