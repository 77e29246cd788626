/-! CornerClaims$Setup: stones and polygons. -/
/-- changes of the reader, of its board, of the line only -/
def am_f3 (h h1 : AH) (t b l : Nat) : Prop := h1.2 = h.2 ∧ ∀ q, ¬ (t ≤ q ∧ q < t + 7) → ¬ (b ≤ q ∧ q < b + 24) → q ≠ l → h1.1 q = h.1 q
theorem am_f3.rf {h : AH} {t b l : Nat} : am_f3 h h t b l := ⟨rfl, fun _ _ _ _ => rfl⟩
theorem am_f3.tr {h h1 h2 : AH} {t b l : Nat} (f : am_f3 h h1 t b l) (g : am_f3 h1 h2 t b l) : am_f3 h h2 t b l := ⟨g.1.trans f.1, fun q a b c => (g.2 q a b c).trans (f.2 q a b c)⟩
theorem am_fr.t {h h1 : AH} {t b l : Nat} (f : am_fr h h1 t (t + 7)) : am_f3 h h1 t b l := ⟨f.1, fun q a _ _ => f.2 q a⟩
theorem am_fr.b {h h1 : AH} {t b l : Nat} (f : am_fr h h1 b (b + 24)) : am_f3 h h1 t b l := ⟨f.1, fun q _ a _ => f.2 q a⟩
theorem am_fr.l {h h1 : AH} {t b l : Nat} (f : am_fr h h1 l (l + 1)) : am_f3 h h1 t b l := ⟨f.1, fun q _ _ a => f.2 q (fun z => a (by omega))⟩
theorem am_f3.mid {h h1 : AH} {t b l : Nat} (f : am_f3 h h1 t b l) : ∃ h2 h3, am_fr h h2 t (t + 7) ∧ am_fr h2 h3 b (b + 24) ∧ am_fr h3 h1 l (l + 1) := by
  refine ⟨(fun q => if t ≤ q ∧ q < t + 7 then h1.1 q else h.1 q, h.2), (fun q => if (t ≤ q ∧ q < t + 7) ∨ (b ≤ q ∧ q < b + 24) then h1.1 q else h.1 q, h.2), ⟨rfl, fun q a => ?_⟩, ⟨rfl, fun q a => ?_⟩, ⟨f.1, fun q a => ?_⟩⟩
  · exact if_neg a
  · show (if (t ≤ q ∧ q < t + 7) ∨ (b ≤ q ∧ q < b + 24) then h1.1 q else h.1 q) = if t ≤ q ∧ q < t + 7 then h1.1 q else h.1 q
    by_cases c : t ≤ q ∧ q < t + 7
    · rw [if_pos (Or.inl c), if_pos c]
    · rw [if_neg (fun z => z.elim c a), if_neg c]
  · show h1.1 q = if (t ≤ q ∧ q < t + 7) ∨ (b ≤ q ∧ q < b + 24) then h1.1 q else h.1 q
    by_cases c : (t ≤ q ∧ q < t + 7) ∨ (b ≤ q ∧ q < b + 24)
    · rw [if_pos c]
    · rw [if_neg c]
      exact f.2 q (fun z => c (Or.inl z)) (fun z => c (Or.inr z)) (fun z => a (by omega))
/-- by cases, decidable or not -/
noncomputable def gm_ite {A : Type} (P : Prop) (a b : A) : A := @ite A P (Classical.propDecidable P) a b
theorem gm_ite_t {A : Type} {P : Prop} {a b : A} (h : P) : gm_ite P a b = a := @if_pos P (Classical.propDecidable P) h A a b
theorem gm_ite_f {A : Type} {P : Prop} {a b : A} (h : ¬ P) : gm_ite P a b = b := @if_neg P (Classical.propDecidable P) h A a b
/-- a stone is read: the board with it -/
noncomputable def rS (kd st vl : Int → Int) (D : Int → Int) (he : Int) : (Int × Int) ⊕ (Int → Int) := if D 2 < 20 then rB (rP kd st vl (D 0) (D 1) (he + 1)) (fun q => gm_ite (gm_oc D q.1 q.2) (.inl (-4, st (he + 1 + 1))) (rB (rN kd st vl 1 99 (he + 1 + 1 + 1)) fun v => rB (rT kd st 59 (he + 1 + 1 + 1 + 1)) fun _ => .inr (gm_addS D q.1 q.2 v))) else .inl (-5, st he)
theorem rP_r {kd st vl : Int → Int} {w hh he x y : Int} (h : rP kd st vl w hh he = .inr (x, y)) : kd he = 2 ∧ kd (he + 1) = 2 ∧ x = vl he ∧ y = vl (he + 1) ∧ (0 ≤ x ∧ x ≤ w) ∧ (0 ≤ y ∧ y ≤ hh) := by
  unfold rP rB at h
  split at h
  · cases h
  · rename_i x' hx
    split at h
    · cases h
    · rename_i y' hy
      cases h
      have a := rN_r hx
      have b := rN_r hy
      exact ⟨a.1, b.1, a.2.1, b.2.1, a.2.2, b.2.2⟩

set_option maxHeartbeats 1000000 in
theorem c_X6_readStone {w : am_w} {h : AH} {t u b j : Nat} {kd st vl : Int → Int} {he nu px cl hs er ea : Int} {cd : Int → Int} (hS : SU h t u b j kd st vl he nu px cl hs er ea cd) {l : Nat} {n : Int} (n0 : n ≤ 800) (kn : kd n = 0) (he0 : 0 ≤ he) (he1 : he ≤ n) (kr : ∀ i, 0 ≤ i → i < 801 → -5 ≤ kd i ∧ kd i ≤ 100) (vq : ∀ i, 0 ≤ i → i < 801 → 0 ≤ vl i ∧ vl i ≤ 10000) (cl0 : 0 ≤ cl) (cl1 : cl ≤ 800) {D cm : Int → Int} {sc : Nat} (hB : BD h b D cm sc) (hD : VD D) (hd : t + 7 ≤ b ∨ b + 24 ≤ t) (hk : kd he ≠ 0)  : AE w m_X6_readStone 5 [vr t] h (am_int (fun z h1 => ((z = 1 ∧ ∃ D', rS kd st vl D he = .inr D' ∧ (∃ nu' px', SU h1 t u b j kd st vl (he + 1 + 1 + 1 + 1 + 1) nu' px' cl hs er ea cd) ∧ BD h1 b D' cm sc) ∨ (z = 0 ∧ ∃ e a, rS kd st vl D he = .inl (e, a) ∧ SF h1 t u b j kd st vl e a ∧ BA h1 b)) ∧ am_f3 h h1 t b l)) := by
  refine AE.of wf_X6_readStone (Nat.le_of_ble_eq_true rfl) (am_ok_z (fun z h1 q => by rcases q.1 with q | q; exact Or.inr q.1; exact Or.inl q.1)) ?_
  obtain ⟨tc, c0, c1, c2, c3, c4, cj, c5, cL⟩ := id hS
  obtain ⟨⟨sx, sy, sv, ⟨b0, b1, b2, b3, b4, b5⟩, hst⟩, hall, hsh⟩ := id hB
  have d0 := hD.1
  have d1 := hD.2.1
  have d2 := hD.2.2.1
  have d3 := hD.2.2.2.1
  have hen : he ≠ n := fun e9 => by rw [e9] at hk; omega
  refine q_blk (lv2 := [(0, vr t)]) (st2 := [vr t]) kX6_readStone_0 rfl ?_
  refine q_gr eX6_readStone_1 fl_RX6_54 (Or.inl ⟨_, rfl⟩) c0 rfl ?_
  refine q_gi eX6_readStone_4 fl_RX6_173 (Or.inl rfl) b0 (z := (D 2)) rfl ?_
  refine q_blk (lv2 := [(0, vr t)]) (st2 := [vi 20, vi (D 2)]) kX6_readStone_7 rfl ?_
  refine AQ.ic_lt (tgt := 19) eX6_readStone_9 (by decide) (by first | assumption | exact ⟨by omega, by omega⟩) ⟨by decide, by decide⟩ (fun br1 => ?_) (fun br1 => ?_)
  · skip
    refine q_blk (lv2 := [(0, vr t)]) (st2 := [vr t, vr t]) kX6_readStone_19 rfl ?_
    refine q_gi eX6_readStone_21 fl_RX6_28 (Or.inl rfl) c0 (z := he) rfl ?_
    refine q_blk (lv2 := [(0, vr t)]) (st2 := [vi (he + 1), vr t]) kX6_readStone_24 rfl ?_
    refine q_pi eX6_readStone_26 fl_RX6_28 (fun q hq => by cases hq; exact Or.inl rfl) (Or.inl rfl) c0 (Nat.le_of_ble_eq_true rfl) (l2 := [0, 0, 0, 0, 0, 0, 0, tc, (he + 1), nu, px, cl, hs, er, ea]) rfl (fun h2 e3 => ?_)
    have k4 := (am_ne e3 b (by omega)).trans b0
    have k5 := hB.kept (lo := t) (hi := t + 1) (am_fr.st e3 (by omega) (by omega)) (by omega) (by omega)
    have k6 := (am_ne e3 (b + 1) (by omega)).trans b1
    have k7 := (am_ne e3 (b + 2) (by omega)).trans b2
    have k8 := (am_ne e3 (b + 3) (by omega)).trans b3
    have k9 := (am_ne e3 (b + 4) (by omega)).trans b4
    have k10 := (am_ne e3 (b + 5) (by omega)).trans b5
    have k11 := am_at e3
    have k12 := (am_ne e3 (t + 3) (by omega)).trans c1
    have k13 := (am_ne e3 (t + 4) (by omega)).trans c2
    have k14 := (am_ne e3 (t + 5) (by omega)).trans c3
    have k15 := (am_ne e3 (t + 6) (by omega)).trans c4
    have k16 := (am_ne e3 j (by omega)).trans c5
    have k17 := cL.kept (lo := t) (hi := t + 1) (am_fr.st e3 (by omega) (by omega)) (by omega)
    refine q_blk (lv2 := [(0, vr t)]) (st2 := [vr t]) kX6_readStone_29 rfl ?_
    refine AQ.callVi (av := []) (st := []) (c_X6_seePoint ⟨_, k11, k12, k13, k14, k15, cj, k16, k17⟩ n0 kn (by omega) (by omega) kr vq (by omega) (by omega) k5 hD (by omega)) lk_RX6_176 (by decide) rfl rfl ⟨_, _, _, k11⟩ ⟨_, rfl, rfl⟩ (Nat.le_of_ble_eq_true rfl) eX6_readStone_30 (fun z18 h20 e19 => ?_)
    rcases e19 with ⟨⟨rfl, xh20, yh20, qh20, Xh20⟩ | ⟨rfl, eh20, ah20, qh20, Xh20⟩, Fh20⟩
    · skip
      obtain ⟨g21t, g210, g211, g212, g213, g214, g21j, g215, g21L⟩ := id Xh20
      have k22 := (Fh20.2 b (by omega)).trans k4
      have k23 := k5.kept Fh20 (by omega) (by omega)
      have k24 := (Fh20.2 (b + 1) (by omega)).trans k6
      have k25 := (Fh20.2 (b + 2) (by omega)).trans k7
      have k26 := (Fh20.2 (b + 3) (by omega)).trans k8
      have k27 := (Fh20.2 (b + 4) (by omega)).trans k9
      have k28 := (Fh20.2 (b + 5) (by omega)).trans k10
      have rh20 := rP_r qh20
      have nh20 : (he + 1) + 1 ≠ n := fun e9 => by rw [e9] at rh20; omega
      have mh20 : (he + 1) ≠ n := fun e9 => by rw [e9] at rh20; omega
      have h_xh20 : am_c xh20 := by unfold am_c; omega
      have h_yh20 : am_c yh20 := by unfold am_c; omega
      refine AQ.of (AS.if_ne_t (tgt := 38) eX6_readStone_33 (by decide) ⟨by decide, by decide⟩ (by decide)) ?_
      refine q_blk (lv2 := [(0, vr t)]) (st2 := [vr t]) kX6_readStone_38 rfl ?_
      refine q_gi eX6_readStone_39 fl_RX6_31 (Or.inl rfl) g210 (z := yh20) rfl ?_
      refine q_blk (lv2 := [(0, vr t), (1, vi yh20)]) (st2 := [vr t]) kX6_readStone_42 rfl ?_
      refine q_gr eX6_readStone_44 fl_RX6_54 (Or.inl ⟨_, rfl⟩) g210 rfl ?_
      refine q_blk (lv2 := [(0, vr t), (1, vi yh20)]) (st2 := [vr t, vr b]) kX6_readStone_47 rfl ?_
      refine q_gi eX6_readStone_48 fl_RX6_34 (Or.inl rfl) g210 (z := xh20) rfl ?_
      refine q_blk (lv2 := [(0, vr t), (1, vi yh20)]) (st2 := [vi yh20, vi xh20, vr b]) kX6_readStone_51 rfl ?_
      refine q_Vi (av := [vi xh20, vi yh20]) (st := []) (c_X0_isOccupied k23 hD h_xh20 h_yh20) lk_RX6_179 (by decide) rfl rfl k23.ob ⟨_, rfl, rfl⟩ (Nat.le_of_ble_eq_true rfl) eX6_readStone_52 (fun z29 e30 => ?_)
      rcases e30 with ⟨rfl, e30⟩ | ⟨rfl, e30⟩
      · skip
        refine AQ.of (AS.if_eq_f eX6_readStone_55 ⟨by decide, by decide⟩ (by decide) (by decide)) ?_
        refine q_blk (lv2 := [(0, vr t), (1, vi yh20)]) (st2 := [vi (-4), vr t]) kX6_readStone_58 rfl ?_
        refine AQ.callVi (av := [vi (-4)]) (st := []) (c_X6_fail (e := (-4)) ⟨_, g210, g211, g212, g213, g214, cj, g215, g21L⟩ (by omega) (by omega)) lk_RX6_83 (by decide) rfl rfl ⟨_, _, _, g210⟩ ⟨_, rfl, rfl⟩ (Nat.le_of_ble_eq_true rfl) eX6_readStone_61 (fun z31 h33 e32 => ?_)
        obtain ⟨z310, Xh33, Fh33⟩ := e32
        subst z310
        obtain ⟨g34t, g340, g341, g342, g343, g344, g34j, g345, g34L⟩ := id Xh33
        have k35 := (Fh33.2 b (by omega)).trans k22
        have k36 := k23.kept Fh33 (by omega) (by omega)
        have k37 := (Fh33.2 (b + 1) (by omega)).trans k24
        have k38 := (Fh33.2 (b + 2) (by omega)).trans k25
        have k39 := (Fh33.2 (b + 3) (by omega)).trans k26
        have k40 := (Fh33.2 (b + 4) (by omega)).trans k27
        have k41 := (Fh33.2 (b + 5) (by omega)).trans k28
        exact q_rz rfl eX6_readStone_64 (by decide) ⟨0, rfl, Or.inr ⟨rfl, _, _, by unfold rS; rw [if_pos (by omega)]; exact (rB_r qh20 _).trans (gm_ite_t e30), ⟨_, _, _, _, _, _, ⟨_, g340, g341, g342, g343, g344, cj, g345, g34L⟩, by omega, by omega⟩, BD.ba k36⟩, (((am_f3.rf.tr (am_fr.t (am_fr.st e3 (by omega) (by omega)))).tr (am_fr.t Fh20)).tr (am_fr.t Fh33))⟩
      · skip
        refine AQ.of (AS.if_eq_t (tgt := 65) eX6_readStone_55 (by decide) ⟨by decide, by decide⟩ (by decide)) ?_
        refine q_blk (lv2 := [(0, vr t), (1, vi yh20)]) (st2 := [vr t, vr t]) kX6_readStone_65 rfl ?_
        refine q_gi eX6_readStone_67 fl_RX6_28 (Or.inl rfl) g210 (z := ((he + 1) + 1)) rfl ?_
        refine q_blk (lv2 := [(0, vr t), (1, vi yh20)]) (st2 := [vi (((he + 1) + 1) + 1), vr t]) kX6_readStone_70 rfl ?_
        refine q_pi eX6_readStone_72 fl_RX6_28 (fun q hq => by cases hq; exact Or.inl rfl) (Or.inl rfl) g210 (Nat.le_of_ble_eq_true rfl) (l2 := [0, 0, 0, 0, 0, 0, 0, g21t, (((he + 1) + 1) + 1), yh20, xh20, cl, hs, er, ea]) rfl (fun h42 e43 => ?_)
        have k44 := (am_ne e43 b (by omega)).trans k22
        have k45 := k23.kept (lo := t) (hi := t + 1) (am_fr.st e43 (by omega) (by omega)) (by omega) (by omega)
        have k46 := (am_ne e43 (b + 1) (by omega)).trans k24
        have k47 := (am_ne e43 (b + 2) (by omega)).trans k25
        have k48 := (am_ne e43 (b + 3) (by omega)).trans k26
        have k49 := (am_ne e43 (b + 4) (by omega)).trans k27
        have k50 := (am_ne e43 (b + 5) (by omega)).trans k28
        have k51 := am_at e43
        have k52 := (am_ne e43 (t + 3) (by omega)).trans g211
        have k53 := (am_ne e43 (t + 4) (by omega)).trans g212
        have k54 := (am_ne e43 (t + 5) (by omega)).trans g213
        have k55 := (am_ne e43 (t + 6) (by omega)).trans g214
        have k56 := (am_ne e43 j (by omega)).trans g215
        have k57 := g21L.kept (lo := t) (hi := t + 1) (am_fr.st e43 (by omega) (by omega)) (by omega)
        refine q_blk (lv2 := [(0, vr t), (1, vi yh20)]) (st2 := [vi 99, vi 1, vr t]) kX6_readStone_75 rfl ?_
        refine AQ.callVi (av := [vi 1, vi 99]) (st := []) (c_X6_takeNumber ⟨_, k51, k52, k53, k54, k55, cj, k56, k57⟩ (by omega) (by omega) kr vq (by omega) (by omega) (lo := 1) (hi := 99) (by omega) (by omega) (by omega) (by omega)) lk_RX6_160 (by decide) rfl rfl ⟨_, _, _, k51⟩ ⟨_, rfl, rfl⟩ (Nat.le_of_ble_eq_true rfl) eX6_readStone_79 (fun z58 h60 e59 => ?_)
        rcases e59 with ⟨⟨rfl, qh60, Xh60⟩ | ⟨rfl, eh60, ah60, qh60, Xh60⟩, Fh60⟩
        · skip
          obtain ⟨g61t, g610, g611, g612, g613, g614, g61j, g615, g61L⟩ := id Xh60
          have k62 := (Fh60.2 b (by omega)).trans k44
          have k63 := k45.kept Fh60 (by omega) (by omega)
          have k64 := (Fh60.2 (b + 1) (by omega)).trans k46
          have k65 := (Fh60.2 (b + 2) (by omega)).trans k47
          have k66 := (Fh60.2 (b + 3) (by omega)).trans k48
          have k67 := (Fh60.2 (b + 4) (by omega)).trans k49
          have k68 := (Fh60.2 (b + 5) (by omega)).trans k50
          have rh60 := rN_r qh60
          have nh60 : (((he + 1) + 1) + 1) ≠ n := fun e9 => by rw [e9] at rh60; omega
          refine AQ.of (AS.if_ne_t (tgt := 87) eX6_readStone_82 (by decide) ⟨by decide, by decide⟩ (by decide)) ?_
          refine q_blk (lv2 := [(0, vr t), (1, vi yh20)]) (st2 := [vr t]) kX6_readStone_87 rfl ?_
          refine q_gr eX6_readStone_88 fl_RX6_54 (Or.inl ⟨_, rfl⟩) g610 rfl ?_
          refine q_blk (lv2 := [(0, vr t), (1, vi yh20)]) (st2 := [vr t, vr b]) kX6_readStone_91 rfl ?_
          refine q_gi eX6_readStone_92 fl_RX6_34 (Or.inl rfl) g610 (z := xh20) rfl ?_
          refine q_blk (lv2 := [(0, vr t), (1, vi yh20)]) (st2 := [vr t, vi yh20, vi xh20, vr b]) kX6_readStone_95 rfl ?_
          refine q_gi eX6_readStone_97 fl_RX6_31 (Or.inl rfl) g610 (z := (vl (((he + 1) + 1) + 1))) rfl ?_
          refine AQ.callVv (av := [vi xh20, vi yh20, vi (vl (((he + 1) + 1) + 1))]) (st := []) (c_X0_addStone k63 hD (by omega) (x := xh20) (y := yh20) (v := (vl (((he + 1) + 1) + 1)))) lk_RX6_182 (by decide) rfl rfl k63.ob ⟨_, rfl, rfl⟩ (Nat.le_of_ble_eq_true rfl) eX6_readStone_100 (fun h71 e70 => ?_)
          obtain ⟨Xh71, Fh71⟩ := e70
          have k72 := (Fh71.2 t (by omega)).trans g610
          have k73 := (Fh71.2 (t + 3) (by omega)).trans g611
          have k74 := (Fh71.2 (t + 4) (by omega)).trans g612
          have k75 := (Fh71.2 (t + 5) (by omega)).trans g613
          have k76 := (Fh71.2 (t + 6) (by omega)).trans g614
          have k77 := (Fh71.2 j (by omega)).trans g615
          have k78 := g61L.kept Fh71 (by omega)
          have Vh71 := gm_addS_vd hD (x := xh20) (y := yh20) (v := (vl (((he + 1) + 1) + 1))) (by omega) (by omega) (by omega) (by omega)
          have Wh71 := Vh71.2.2.2.1
          obtain ⟨⟨u0, u1, u2, ⟨y0, y1, y2, y3, y4, y5⟩, ust⟩, uall, ush⟩ := id Xh71
          refine q_blk (lv2 := [(0, vr t), (1, vi yh20)]) (st2 := [vi 59, vr t]) kX6_readStone_103 rfl ?_
          refine AQ.callVi (av := [vi 59]) (st := []) (c_X6_take ⟨_, k72, k73, k74, k75, k76, cj, k77, k78⟩ (by omega) (by omega) kr vq (k := 59) (by omega) (by omega)) lk_RX6_166 (by decide) rfl rfl ⟨_, _, _, k72⟩ ⟨_, rfl, rfl⟩ (Nat.le_of_ble_eq_true rfl) eX6_readStone_106 (fun z79 h81 e80 => ?_)
          rcases e80 with ⟨⟨rfl, qh81, Xh81⟩ | ⟨rfl, qh81, Xh81⟩, Fh81⟩
          · skip
            obtain ⟨g82t, g820, g821, g822, g823, g824, g82j, g825, g82L⟩ := id Xh81
            have k83 := (Fh81.2 b (by omega)).trans y0
            have k84 := Xh71.kept Fh81 (by omega) (by omega)
            have k85 := (Fh81.2 (b + 1) (by omega)).trans y1
            have k86 := (Fh81.2 (b + 2) (by omega)).trans y2
            have k87 := (Fh81.2 (b + 3) (by omega)).trans y3
            have k88 := (Fh81.2 (b + 4) (by omega)).trans y4
            have k89 := (Fh81.2 (b + 5) (by omega)).trans y5
            have nh81 : ((((he + 1) + 1) + 1) + 1) ≠ n := fun e9 => by rw [e9] at qh81; omega
            exact q_rz rfl eX6_readStone_109 (by decide) ⟨1, rfl, Or.inl ⟨rfl, _, by unfold rS; rw [if_pos (by omega)]; exact (rB_r qh20 _).trans ((gm_ite_f e30).trans ((rB_r qh60 _).trans (rB_r (show rT kd st 59 ((((he + 1) + 1) + 1) + 1) = .inr () by unfold rT; rw [if_pos qh81]) _))), ⟨_, _, ⟨_, g820, g821, g822, g823, g824, cj, g825, g82L⟩⟩, k84⟩, ((((((am_f3.rf.tr (am_fr.t (am_fr.st e3 (by omega) (by omega)))).tr (am_fr.t Fh20)).tr (am_fr.t (am_fr.st e43 (by omega) (by omega)))).tr (am_fr.t Fh60)).tr (am_fr.b Fh71)).tr (am_fr.t Fh81))⟩
          · skip
            obtain ⟨g90t, g900, g901, g902, g903, g904, g90j, g905, g90L⟩ := id Xh81
            have k91 := (Fh81.2 b (by omega)).trans y0
            have k92 := Xh71.kept Fh81 (by omega) (by omega)
            have k93 := (Fh81.2 (b + 1) (by omega)).trans y1
            have k94 := (Fh81.2 (b + 2) (by omega)).trans y2
            have k95 := (Fh81.2 (b + 3) (by omega)).trans y3
            have k96 := (Fh81.2 (b + 4) (by omega)).trans y4
            have k97 := (Fh81.2 (b + 5) (by omega)).trans y5
            exact q_rz rfl eX6_readStone_109 (by decide) ⟨0, rfl, Or.inr ⟨rfl, _, _, by unfold rS; rw [if_pos (by omega)]; exact (rB_r qh20 _).trans ((gm_ite_f e30).trans ((rB_r qh60 _).trans (rB_l (show rT kd st 59 ((((he + 1) + 1) + 1) + 1) = .inl (-2, st ((((he + 1) + 1) + 1) + 1)) by unfold rT; rw [if_neg qh81]) _))), ⟨_, _, _, _, _, _, ⟨_, g900, g901, g902, g903, g904, cj, g905, g90L⟩, by omega, by omega⟩, BD.ba k92⟩, ((((((am_f3.rf.tr (am_fr.t (am_fr.st e3 (by omega) (by omega)))).tr (am_fr.t Fh20)).tr (am_fr.t (am_fr.st e43 (by omega) (by omega)))).tr (am_fr.t Fh60)).tr (am_fr.b Fh71)).tr (am_fr.t Fh81))⟩
        · skip
          have k98 := k45.kept Fh60 (by omega) (by omega)
          refine AQ.of (AS.if_ne_f eX6_readStone_82 ⟨by decide, by decide⟩ (by decide) (by decide)) ?_
          refine q_blk (lv2 := [(0, vr t), (1, vi yh20)]) (st2 := [vi 0]) kX6_readStone_85 rfl ?_
          exact q_rz rfl eX6_readStone_86 (by decide) ⟨0, rfl, Or.inr ⟨rfl, _, _, by unfold rS; rw [if_pos (by omega)]; exact (rB_r qh20 _).trans ((gm_ite_f e30).trans (rB_l qh60 _)), Xh60, BD.ba k98⟩, ((((am_f3.rf.tr (am_fr.t (am_fr.st e3 (by omega) (by omega)))).tr (am_fr.t Fh20)).tr (am_fr.t (am_fr.st e43 (by omega) (by omega)))).tr (am_fr.t Fh60))⟩
    · skip
      have k99 := k5.kept Fh20 (by omega) (by omega)
      refine AQ.of (AS.if_ne_f eX6_readStone_33 ⟨by decide, by decide⟩ (by decide) (by decide)) ?_
      refine q_blk (lv2 := [(0, vr t)]) (st2 := [vi 0]) kX6_readStone_36 rfl ?_
      exact q_rz rfl eX6_readStone_37 (by decide) ⟨0, rfl, Or.inr ⟨rfl, _, _, by unfold rS; rw [if_pos (by omega)]; exact (rB_l qh20 _), Xh20, BD.ba k99⟩, ((am_f3.rf.tr (am_fr.t (am_fr.st e3 (by omega) (by omega)))).tr (am_fr.t Fh20))⟩
  · skip
    refine q_blk (lv2 := [(0, vr t)]) (st2 := [vi (-5), vr t]) kX6_readStone_12 rfl ?_
    refine AQ.callVi (av := [vi (-5)]) (st := []) (c_X6_fail (e := (-5)) ⟨_, c0, c1, c2, c3, c4, cj, c5, cL⟩ (by omega) (by omega)) lk_RX6_83 (by decide) rfl rfl ⟨_, _, _, c0⟩ ⟨_, rfl, rfl⟩ (Nat.le_of_ble_eq_true rfl) eX6_readStone_15 (fun z100 h102 e101 => ?_)
    obtain ⟨z1000, Xh102, Fh102⟩ := e101
    subst z1000
    obtain ⟨g103t, g1030, g1031, g1032, g1033, g1034, g103j, g1035, g103L⟩ := id Xh102
    have k104 := (Fh102.2 b (by omega)).trans b0
    have k105 := hB.kept Fh102 (by omega) (by omega)
    have k106 := (Fh102.2 (b + 1) (by omega)).trans b1
    have k107 := (Fh102.2 (b + 2) (by omega)).trans b2
    have k108 := (Fh102.2 (b + 3) (by omega)).trans b3
    have k109 := (Fh102.2 (b + 4) (by omega)).trans b4
    have k110 := (Fh102.2 (b + 5) (by omega)).trans b5
    exact q_rz rfl eX6_readStone_18 (by decide) ⟨0, rfl, Or.inr ⟨rfl, _, _, by unfold rS; rw [if_neg (by omega)], ⟨_, _, _, _, _, _, ⟨_, g1030, g1031, g1032, g1033, g1034, cj, g1035, g103L⟩, by omega, by omega⟩, BD.ba k105⟩, (am_f3.rf.tr (am_fr.t Fh102))⟩

theorem gm_lr_one {D : Int → Int} {lp lc l1 l2 ax ay bx by' z z' : Int} (h : gm_lr D lp lc l1 l2 ax ay bx by' z) (h' : gm_lr D lp lc l1 l2 ax ay bx by' z') : z = z' := by
  rcases h with ⟨a, e⟩ | ⟨a, ⟨c, e⟩ | ⟨c, e⟩⟩ <;> rcases h' with ⟨a', e'⟩ | ⟨a', ⟨c', e'⟩ | ⟨c', e'⟩⟩ <;> first | exact e.trans e'.symm | contradiction
theorem gm_rC_one {D : Int → Int} {p x y z z' : Int} (h : gm_rC D p x y z) (h' : gm_rC D p x y z') : z = z' := by
  rcases h with ⟨a, e⟩ | ⟨a, ⟨b, e⟩ | ⟨b, ⟨c, e⟩ | ⟨c, e⟩⟩⟩ <;> rcases h' with ⟨a', e'⟩ | ⟨a', ⟨b', e'⟩ | ⟨b', ⟨c', e'⟩ | ⟨c', e'⟩⟩⟩ <;> first | exact e.trans e'.symm | (exfalso; omega) | contradiction | exact gm_lr_one e e'
theorem gm_rL_one {D : Int → Int} {p z z' : Int} (h : gm_rL D p z) (h' : gm_rL D p z') : z = z' := by
  rcases h with ⟨a, e⟩ | ⟨a, ⟨b, e⟩ | ⟨b, e⟩⟩ <;> rcases h' with ⟨a', e'⟩ | ⟨a', ⟨b', e'⟩ | ⟨b', e'⟩⟩ <;> first | exact e.trans e'.symm | (exfalso; omega) | exact gm_lr_one e e'
theorem gm_rC_r {D : Int → Int} {p x y z : Int} (h : gm_rC D p x y z) : 0 ≤ z ∧ z ≤ 6 := by
  rcases h with ⟨a, e⟩ | ⟨a, ⟨b, e⟩ | ⟨b, ⟨c, e⟩ | ⟨c, e⟩⟩⟩
  · omega
  · omega
  · omega
  · have := gm_lr_r e; omega
theorem gm_rL_r {D : Int → Int} {p z : Int} (h : gm_rL D p z) : 0 ≤ z ∧ z ≤ 6 := by
  rcases h with ⟨a, e⟩ | ⟨a, ⟨b, e⟩ | ⟨b, e⟩⟩
  · omega
  · omega
  · have := gm_lr_r e; omega
theorem gm_rC_0 {D : Int → Int} {p x y : Int} (h : gm_rC D p x y 0) : pC D p = 0 ∧ pN D p < 12 ∧ ¬ gm_tk D x y := by
  rcases h with ⟨a, e⟩ | ⟨a, ⟨b, e⟩ | ⟨b, ⟨c, e⟩ | ⟨c, e⟩⟩⟩
  · omega
  · omega
  · omega
  · exact ⟨a, b, c⟩
theorem gm_rL_0 {D : Int → Int} {p : Int} (h : gm_rL D p 0) : pC D p = 0 ∧ 3 ≤ pN D p := by
  rcases h with ⟨a, e⟩ | ⟨a, ⟨b, e⟩ | ⟨b, e⟩⟩
  · omega
  · omega
  · exact ⟨a, b⟩
/-- a polygon with a corner more; closed -/
def gm_adC (D : Int → Int) (p x y : Int) : Int → Int := gm_setP D p (pN D p + 1) (pC D p) (gm_in (pN D p) x (pX D p)) (gm_in (pN D p) y (pY D p))
def gm_clP (D : Int → Int) (p : Int) : Int → Int := gm_setP D p (pN D p) 1 (pX D p) (pY D p)
theorem gm_adC_vd {D : Int → Int} (hD : VD D) {p x y : Int} (p0 : 0 ≤ p) (p1 : p < D 3) (hc : pC D p = 0) (hn : pN D p < 12) (hx : 0 ≤ x ∧ x ≤ D 0) (hy : 0 ≤ y ∧ y ≤ D 1) : VD (gm_adC D p x y) := by
  have h := hD.2.2.2.2.2 p p0 p1
  exact gm_setP_vd hD p0 (by omega) (Or.inl hc) (gm_in_vd hx hy (by omega) (by omega) h.2.2.2)
theorem gm_adC_ve {D : Int → Int} (hD : VD D) (hE : VE D) {p x y : Int} (p0 : 0 ≤ p) (p1 : p < D 3) (hn : pN D p < 12) (ht : ¬ gm_tk D x y) : VE (gm_adC D p x y) := by
  have h := hD.2.2.2.2.2 p p0 p1
  exact gm_setP_ve hD hE p0 (by omega) (gm_in_ve (by omega) (by omega) (fun k k0 k1 => by have := gm_tk_ne ht p0 p1 k0 k1; omega) (fun k m k0 km m1 => hE p k m p0 p1 k0 km m1))
theorem gm_clP_vd {D : Int → Int} (hD : VD D) {p : Int} (p0 : 0 ≤ p) (p1 : p < D 3) (hn : 3 ≤ pN D p) : VD (gm_clP D p) := by
  have h := hD.2.2.2.2.2 p p0 p1
  exact gm_setP_vd hD p0 (by omega) (Or.inr ⟨rfl, hn⟩) h.2.2.2
theorem gm_clP_ve {D : Int → Int} (hD : VD D) (hE : VE D) {p : Int} (p0 : 0 ≤ p) (p1 : p < D 3) : VE (gm_clP D p) := by
  have h := hD.2.2.2.2.2 p p0 p1
  exact gm_setP_ve hD hE p0 (by omega) (fun k m k0 km m1 => hE p k m p0 p1 k0 km m1)
/-- corners are read, as long as numbers are there -/
noncomputable def rK (kd st vl : Int → Int) (p : Int) : Nat → (Int → Int) → Int → (Int × Int) ⊕ ((Int → Int) × Int)
  | 0, D, he => .inr (D, he)
  | f + 1, D, he => if kd he = 2 then rB (rP kd st vl (D 0) (D 1) he) (fun q => gm_ite (gm_rC D p q.1 q.2 0) (rK kd st vl p f (gm_adC D p q.1 q.2) (he + 1 + 1)) (.inl (-4, st (he + 1)))) else .inr (D, he)
/-- a polygon is read -/
noncomputable def rG (kd st vl : Int → Int) (D : Int → Int) (he : Int) : (Int × Int) ⊕ ((Int → Int) × Int) := if D 3 < 6 then rB (rN kd st vl 0 3 (he + 1)) (fun o => rB (rP kd st vl (D 0) (D 1) (he + 1 + 1)) fun q => gm_ite (gm_oc D q.1 q.2) (.inl (-4, st (he + 1 + 1 + 1))) (rB (rK kd st vl (D 3) 800 (gm_stP D o q.1 q.2) (he + 1 + 1 + 1 + 1)) fun r => if kd r.2 = 59 then gm_ite (gm_rL r.1 (D 3) 0) (.inr (gm_clP r.1 (D 3), r.2 + 1)) (.inl (-4, st r.2)) else .inl (-2, st r.2))) else .inl (-5, st he)

theorem rK_end {kd st vl : Int → Int} {p : Int} {f : Nat} {D : Int → Int} {he : Int} (h : f = 0 ∨ kd he ≠ 2) : rK kd st vl p f D he = .inr (D, he) := by
  cases f with
  | zero => rfl
  | succ f => exact if_neg (by omega)
theorem rK_go {kd st vl : Int → Int} {p : Int} {f : Nat} {D : Int → Int} {he x y : Int} (hf : 0 < f) (hk : kd he = 2) (hq : rP kd st vl (D 0) (D 1) he = .inr (x, y)) (hr : gm_rC D p x y 0) : rK kd st vl p f D he = rK kd st vl p (f - 1) (gm_adC D p x y) (he + 1 + 1) := by
  cases f with
  | zero => omega
  | succ f => exact (if_pos hk).trans ((rB_r hq _).trans (gm_ite_t hr))
theorem rK_p {kd st vl : Int → Int} {p : Int} {f : Nat} {D : Int → Int} {he : Int} {e : Int × Int} (hf : 0 < f) (hk : kd he = 2) (hq : rP kd st vl (D 0) (D 1) he = .inl e) : rK kd st vl p f D he = .inl e := by
  cases f with
  | zero => omega
  | succ f => exact (if_pos hk).trans (rB_l hq _)
theorem rK_x {kd st vl : Int → Int} {p : Int} {f : Nat} {D : Int → Int} {he x y : Int} (hf : 0 < f) (hk : kd he = 2) (hq : rP kd st vl (D 0) (D 1) he = .inr (x, y)) (hr : ¬ gm_rC D p x y 0) : rK kd st vl p f D he = .inl (-4, st (he + 1)) := by
  cases f with
  | zero => omega
  | succ f => exact (if_pos hk).trans ((rB_r hq _).trans (gm_ite_f hr))

set_option maxHeartbeats 8000000 in
theorem c_X6_readPolygon {w : am_w} {h : AH} {t u b j : Nat} {kd st vl : Int → Int} {he nu px cl hs er ea : Int} {cd : Int → Int} (hS : SU h t u b j kd st vl he nu px cl hs er ea cd) {n : Int} (n0 : n ≤ 800) (kn : kd n = 0) (he0 : 0 ≤ he) (he1 : he ≤ n) (kr : ∀ i, 0 ≤ i → i < 801 → -5 ≤ kd i ∧ kd i ≤ 100) (vq : ∀ i, 0 ≤ i → i < 801 → 0 ≤ vl i ∧ vl i ≤ 10000) (cl0 : 0 ≤ cl) (cl1 : cl ≤ 800) {D cm : Int → Int} {sc : Nat} (hB : BD h b D cm sc) (hD : VD D) (hd : t + 7 ≤ b ∨ b + 24 ≤ t) (hE : VE D) (hk : kd he ≠ 0)  : AE w m_X6_readPolygon 7 [vr t] h (am_int (fun z h1 => ((z = 1 ∧ ∃ D' he', rG kd st vl D he = .inr (D', he') ∧ (∃ nu' px', SU h1 t u b j kd st vl he' nu' px' cl hs er ea cd) ∧ BD h1 b D' cm sc) ∨ (z = 0 ∧ ∃ e a, rG kd st vl D he = .inl (e, a) ∧ SF h1 t u b j kd st vl e a ∧ BA h1 b)) ∧ am_f3 h h1 t b (t + 2))) := by
  refine AE.of wf_X6_readPolygon (Nat.le_of_ble_eq_true rfl) (am_ok_z (fun z h1 q => by rcases q.1 with q | q; exact Or.inr q.1; exact Or.inl q.1)) ?_
  obtain ⟨tc, c0, c1, c2, c3, c4, cj, c5, cL⟩ := id hS
  obtain ⟨⟨sx, sy, sv, ⟨b0, b1, b2, b3, b4, b5⟩, hst⟩, hall, hsh⟩ := id hB
  have d0 := hD.1
  have d1 := hD.2.1
  have d2 := hD.2.2.1
  have d3 := hD.2.2.2.1
  have hen : he ≠ n := fun e9 => by rw [e9] at hk; omega
  refine q_blk (lv2 := [(0, vr t)]) (st2 := [vr t]) kX6_readPolygon_0 rfl ?_
  refine q_gr eX6_readPolygon_1 fl_RX6_54 (Or.inl ⟨_, rfl⟩) c0 rfl ?_
  refine q_gi eX6_readPolygon_4 fl_RX6_185 (Or.inl rfl) b0 (z := (D 3)) rfl ?_
  refine q_blk (lv2 := [(0, vr t)]) (st2 := [vi 6, vi (D 3)]) kX6_readPolygon_7 rfl ?_
  refine AQ.ic_lt (tgt := 19) eX6_readPolygon_9 (by decide) (by first | assumption | exact ⟨by omega, by omega⟩) ⟨by decide, by decide⟩ (fun br1 => ?_) (fun br1 => ?_)
  · skip
    refine q_blk (lv2 := [(0, vr t)]) (st2 := [vr t, vr t]) kX6_readPolygon_19 rfl ?_
    refine q_gi eX6_readPolygon_21 fl_RX6_28 (Or.inl rfl) c0 (z := he) rfl ?_
    refine q_blk (lv2 := [(0, vr t)]) (st2 := [vi (he + 1), vr t]) kX6_readPolygon_24 rfl ?_
    refine q_pi eX6_readPolygon_26 fl_RX6_28 (fun q hq => by cases hq; exact Or.inl rfl) (Or.inl rfl) c0 (Nat.le_of_ble_eq_true rfl) (l2 := [0, 0, 0, 0, 0, 0, 0, tc, (he + 1), nu, px, cl, hs, er, ea]) rfl (fun h2 e3 => ?_)
    have k4 := (am_ne e3 b (by omega)).trans b0
    have k5 := hB.kept (lo := t) (hi := t + 1) (am_fr.st e3 (by omega) (by omega)) (by omega) (by omega)
    have k6 := (am_ne e3 (b + 1) (by omega)).trans b1
    have k7 := (am_ne e3 (b + 2) (by omega)).trans b2
    have k8 := (am_ne e3 (b + 3) (by omega)).trans b3
    have k9 := (am_ne e3 (b + 4) (by omega)).trans b4
    have k10 := (am_ne e3 (b + 5) (by omega)).trans b5
    have k11 := am_at e3
    have k12 := (am_ne e3 (t + 3) (by omega)).trans c1
    have k13 := (am_ne e3 (t + 4) (by omega)).trans c2
    have k14 := (am_ne e3 (t + 5) (by omega)).trans c3
    have k15 := (am_ne e3 (t + 6) (by omega)).trans c4
    have k16 := (am_ne e3 j (by omega)).trans c5
    have k17 := cL.kept (lo := t) (hi := t + 1) (am_fr.st e3 (by omega) (by omega)) (by omega)
    refine q_blk (lv2 := [(0, vr t)]) (st2 := [vi 3, vi 0, vr t]) kX6_readPolygon_29 rfl ?_
    refine AQ.callVi (av := [vi 0, vi 3]) (st := []) (c_X6_takeNumber ⟨_, k11, k12, k13, k14, k15, cj, k16, k17⟩ (by omega) (by omega) kr vq (by omega) (by omega) (lo := 0) (hi := 3) (by omega) (by omega) (by omega) (by omega)) lk_RX6_160 (by decide) rfl rfl ⟨_, _, _, k11⟩ ⟨_, rfl, rfl⟩ (Nat.le_of_ble_eq_true rfl) eX6_readPolygon_32 (fun z18 h20 e19 => ?_)
    rcases e19 with ⟨⟨rfl, qh20, Xh20⟩ | ⟨rfl, eh20, ah20, qh20, Xh20⟩, Fh20⟩
    · skip
      obtain ⟨g21t, g210, g211, g212, g213, g214, g21j, g215, g21L⟩ := id Xh20
      have k22 := (Fh20.2 b (by omega)).trans k4
      have k23 := k5.kept Fh20 (by omega) (by omega)
      have k24 := (Fh20.2 (b + 1) (by omega)).trans k6
      have k25 := (Fh20.2 (b + 2) (by omega)).trans k7
      have k26 := (Fh20.2 (b + 3) (by omega)).trans k8
      have k27 := (Fh20.2 (b + 4) (by omega)).trans k9
      have k28 := (Fh20.2 (b + 5) (by omega)).trans k10
      have rh20 := rN_r qh20
      have nh20 : (he + 1) ≠ n := fun e9 => by rw [e9] at rh20; omega
      refine AQ.of (AS.if_ne_t (tgt := 40) eX6_readPolygon_35 (by decide) ⟨by decide, by decide⟩ (by decide)) ?_
      refine q_blk (lv2 := [(0, vr t)]) (st2 := [vr t]) kX6_readPolygon_40 rfl ?_
      refine q_gi eX6_readPolygon_41 fl_RX6_31 (Or.inl rfl) g210 (z := (vl (he + 1))) rfl ?_
      refine q_blk (lv2 := [(0, vr t), (1, vi (vl (he + 1)))]) (st2 := [vr t]) kX6_readPolygon_44 rfl ?_
      refine AQ.callVi (av := []) (st := []) (c_X6_seePoint ⟨_, g210, g211, g212, g213, g214, cj, g215, g21L⟩ n0 kn (by omega) (by omega) kr vq (by omega) (by omega) k23 hD (by omega)) lk_RX6_176 (by decide) rfl rfl ⟨_, _, _, g210⟩ ⟨_, rfl, rfl⟩ (Nat.le_of_ble_eq_true rfl) eX6_readPolygon_46 (fun z29 h31 e30 => ?_)
      rcases e30 with ⟨⟨rfl, xh31, yh31, qh31, Xh31⟩ | ⟨rfl, eh31, ah31, qh31, Xh31⟩, Fh31⟩
      · skip
        obtain ⟨g32t, g320, g321, g322, g323, g324, g32j, g325, g32L⟩ := id Xh31
        have k33 := (Fh31.2 b (by omega)).trans k22
        have k34 := k23.kept Fh31 (by omega) (by omega)
        have k35 := (Fh31.2 (b + 1) (by omega)).trans k24
        have k36 := (Fh31.2 (b + 2) (by omega)).trans k25
        have k37 := (Fh31.2 (b + 3) (by omega)).trans k26
        have k38 := (Fh31.2 (b + 4) (by omega)).trans k27
        have k39 := (Fh31.2 (b + 5) (by omega)).trans k28
        have rh31 := rP_r qh31
        have nh31 : ((he + 1) + 1) + 1 ≠ n := fun e9 => by rw [e9] at rh31; omega
        have mh31 : ((he + 1) + 1) ≠ n := fun e9 => by rw [e9] at rh31; omega
        have h_xh31 : am_c xh31 := by unfold am_c; omega
        have h_yh31 : am_c yh31 := by unfold am_c; omega
        refine AQ.of (AS.if_ne_t (tgt := 54) eX6_readPolygon_49 (by decide) ⟨by decide, by decide⟩ (by decide)) ?_
        refine q_blk (lv2 := [(0, vr t), (1, vi (vl (he + 1)))]) (st2 := [vr t]) kX6_readPolygon_54 rfl ?_
        refine q_gr eX6_readPolygon_55 fl_RX6_54 (Or.inl ⟨_, rfl⟩) g320 rfl ?_
        refine q_blk (lv2 := [(0, vr t), (1, vi (vl (he + 1)))]) (st2 := [vr t, vr b]) kX6_readPolygon_58 rfl ?_
        refine q_gi eX6_readPolygon_59 fl_RX6_34 (Or.inl rfl) g320 (z := xh31) rfl ?_
        refine q_blk (lv2 := [(0, vr t), (1, vi (vl (he + 1)))]) (st2 := [vr t, vi xh31, vr b]) kX6_readPolygon_62 rfl ?_
        refine q_gi eX6_readPolygon_63 fl_RX6_31 (Or.inl rfl) g320 (z := yh31) rfl ?_
        refine q_Vi (av := [vi xh31, vi yh31]) (st := []) (c_X0_isOccupied k34 hD h_xh31 h_yh31) lk_RX6_179 (by decide) rfl rfl k34.ob ⟨_, rfl, rfl⟩ (Nat.le_of_ble_eq_true rfl) eX6_readPolygon_66 (fun z40 e41 => ?_)
        rcases e41 with ⟨rfl, e41⟩ | ⟨rfl, e41⟩
        · skip
          refine AQ.of (AS.if_eq_f eX6_readPolygon_69 ⟨by decide, by decide⟩ (by decide) (by decide)) ?_
          refine q_blk (lv2 := [(0, vr t), (1, vi (vl (he + 1)))]) (st2 := [vi (-4), vr t]) kX6_readPolygon_72 rfl ?_
          refine AQ.callVi (av := [vi (-4)]) (st := []) (c_X6_fail (e := (-4)) ⟨_, g320, g321, g322, g323, g324, cj, g325, g32L⟩ (by omega) (by omega)) lk_RX6_83 (by decide) rfl rfl ⟨_, _, _, g320⟩ ⟨_, rfl, rfl⟩ (Nat.le_of_ble_eq_true rfl) eX6_readPolygon_75 (fun z42 h44 e43 => ?_)
          obtain ⟨z420, Xh44, Fh44⟩ := e43
          subst z420
          obtain ⟨g45t, g450, g451, g452, g453, g454, g45j, g455, g45L⟩ := id Xh44
          have k46 := (Fh44.2 b (by omega)).trans k33
          have k47 := k34.kept Fh44 (by omega) (by omega)
          have k48 := (Fh44.2 (b + 1) (by omega)).trans k35
          have k49 := (Fh44.2 (b + 2) (by omega)).trans k36
          have k50 := (Fh44.2 (b + 3) (by omega)).trans k37
          have k51 := (Fh44.2 (b + 4) (by omega)).trans k38
          have k52 := (Fh44.2 (b + 5) (by omega)).trans k39
          exact q_rz rfl eX6_readPolygon_78 (by decide) ⟨0, rfl, Or.inr ⟨rfl, _, _, by unfold rG; rw [if_pos (by omega)]; exact (rB_r qh20 _).trans ((rB_r qh31 _).trans (gm_ite_t e41)), ⟨_, _, _, _, _, _, ⟨_, g450, g451, g452, g453, g454, cj, g455, g45L⟩, by omega, by omega⟩, BD.ba k47⟩, ((((am_f3.rf.tr (am_fr.t (am_fr.st e3 (by omega) (by omega)))).tr (am_fr.t Fh20)).tr (am_fr.t Fh31)).tr (am_fr.t Fh44))⟩
        · skip
          refine AQ.of (AS.if_eq_t (tgt := 79) eX6_readPolygon_69 (by decide) ⟨by decide, by decide⟩ (by decide)) ?_
          refine q_blk (lv2 := [(0, vr t), (1, vi (vl (he + 1)))]) (st2 := [vr t, vr t]) kX6_readPolygon_79 rfl ?_
          refine q_gi eX6_readPolygon_81 fl_RX6_28 (Or.inl rfl) g320 (z := (((he + 1) + 1) + 1)) rfl ?_
          refine q_blk (lv2 := [(0, vr t), (1, vi (vl (he + 1)))]) (st2 := [vi ((((he + 1) + 1) + 1) + 1), vr t]) kX6_readPolygon_84 rfl ?_
          refine q_pi eX6_readPolygon_86 fl_RX6_28 (fun q hq => by cases hq; exact Or.inl rfl) (Or.inl rfl) g320 (Nat.le_of_ble_eq_true rfl) (l2 := [0, 0, 0, 0, 0, 0, 0, g32t, ((((he + 1) + 1) + 1) + 1), yh31, xh31, cl, hs, er, ea]) rfl (fun h53 e54 => ?_)
          have k55 := (am_ne e54 b (by omega)).trans k33
          have k56 := k34.kept (lo := t) (hi := t + 1) (am_fr.st e54 (by omega) (by omega)) (by omega) (by omega)
          have k57 := (am_ne e54 (b + 1) (by omega)).trans k35
          have k58 := (am_ne e54 (b + 2) (by omega)).trans k36
          have k59 := (am_ne e54 (b + 3) (by omega)).trans k37
          have k60 := (am_ne e54 (b + 4) (by omega)).trans k38
          have k61 := (am_ne e54 (b + 5) (by omega)).trans k39
          have k62 := am_at e54
          have k63 := (am_ne e54 (t + 3) (by omega)).trans g321
          have k64 := (am_ne e54 (t + 4) (by omega)).trans g322
          have k65 := (am_ne e54 (t + 5) (by omega)).trans g323
          have k66 := (am_ne e54 (t + 6) (by omega)).trans g324
          have k67 := (am_ne e54 j (by omega)).trans g325
          have k68 := g32L.kept (lo := t) (hi := t + 1) (am_fr.st e54 (by omega) (by omega)) (by omega)
          refine q_blk (lv2 := [(0, vr t), (1, vi (vl (he + 1)))]) (st2 := [vr t]) kX6_readPolygon_89 rfl ?_
          refine q_gr eX6_readPolygon_90 fl_RX6_54 (Or.inl ⟨_, rfl⟩) k62 rfl ?_
          refine q_blk (lv2 := [(0, vr t), (1, vi (vl (he + 1)))]) (st2 := [vr t, vi (vl (he + 1)), vr b]) kX6_readPolygon_93 rfl ?_
          refine q_gi eX6_readPolygon_95 fl_RX6_34 (Or.inl rfl) k62 (z := xh31) rfl ?_
          refine q_blk (lv2 := [(0, vr t), (1, vi (vl (he + 1)))]) (st2 := [vr t, vi xh31, vi (vl (he + 1)), vr b]) kX6_readPolygon_98 rfl ?_
          refine q_gi eX6_readPolygon_99 fl_RX6_31 (Or.inl rfl) k62 (z := yh31) rfl ?_
          refine AQ.callVi (av := [vi (vl (he + 1)), vi xh31, vi yh31]) (st := []) (c_X0_startShape k56 hD (by omega) (o := (vl (he + 1))) (x := xh31) (y := yh31)) lk_RX6_188 (by decide) rfl rfl k56.ob ⟨_, rfl, rfl⟩ (Nat.le_of_ble_eq_true rfl) eX6_readPolygon_102 (fun z69 h71 e70 => ?_)
          obtain ⟨eh71, Xh71, Fh71⟩ := e70
          subst eh71
          have k72 := (Fh71.2 t (by omega)).trans k62
          have k73 := (Fh71.2 (t + 3) (by omega)).trans k63
          have k74 := (Fh71.2 (t + 4) (by omega)).trans k64
          have k75 := (Fh71.2 (t + 5) (by omega)).trans k65
          have k76 := (Fh71.2 (t + 6) (by omega)).trans k66
          have k77 := (Fh71.2 j (by omega)).trans k67
          have k78 := k68.kept Fh71 (by omega)
          have Vh71 := gm_stP_vd hD (o := (vl (he + 1))) (x := xh31) (y := yh31) (by omega) (by omega) (by omega) (by omega)
          have Eh71 := gm_stP_ve hD hE (o := (vl (he + 1))) (x := xh31) (y := yh31) (by omega)
          have Th71 := gm_stP_3 (D := D) (o := (vl (he + 1))) (x := xh31) (y := yh31)
          have Ch71 := (gm_stP_p (D := D) (o := (vl (he + 1))) (x := xh31) (y := yh31) (by omega)).2.2.1
          obtain ⟨⟨u79a, u79b, u79c, ⟨u790, u791, u792, u793, u794, u795⟩, u79t⟩, -, -⟩ := id Xh71
          refine q_blk (lv2 := [(0, vr t), (1, vi (vl (he + 1))), (2, vi (D 3))]) (st2 := [vr t]) kX6_readPolygon_105 rfl ?_
          refine q_gr eX6_readPolygon_107 fl_RX6_54 (Or.inl ⟨_, rfl⟩) k72 rfl ?_
          refine q_blk (lv2 := [(0, vr t), (1, vi (vl (he + 1))), (2, vi (D 3))]) (st2 := [vi (D 3), vr b]) kX6_readPolygon_110 rfl ?_
          refine q_Vr (av := [vi (D 3)]) (st := []) (c_X0_shapeAt Xh71 Vh71 (p := D 3) (by omega) (by omega)) lk_RX6_192 (by decide) rfl rfl Xh71.ob ⟨_, rfl, rfl⟩ (Nat.le_of_ble_eq_true rfl) eX6_readPolygon_111 (fun z80 e81 => ?_)
          subst e81
          refine q_blk (lv2 := [(0, vr t), (1, vi (vl (he + 1))), (2, vi (D 3)), (3, vr (b + 6 + 3 * (Int.toNat (D 3)))), (4, vi 0)]) (st2 := []) kX6_readPolygon_114 rfl ?_
          refine q_sub (lv2 := [(0, vr t), (2, vi (D 3)), (3, vr (b + 6 + 3 * (Int.toNat (D 3)))), (4, vi 0)]) [0, 2, 3, 4] rfl ?_
          refine am_lp6 (I := fun (i : Int) (hh : AH) (D9 : Int → Int) (e9 : Int) (v9 : Int) (x9 : Int) => (0 ≤ i ∧ i ≤ 800) ∧ (0 ≤ e9 ∧ e9 ≤ n) ∧ rK kd st vl (D 3) (800 - i.toNat) D9 e9 = rK kd st vl (D 3) 800 (gm_stP D (vl (he + 1)) xh31 yh31) ((((he + 1) + 1) + 1) + 1) ∧ SU hh t u b j kd st vl e9 v9 x9 cl hs er ea cd ∧ BD hh b D9 cm sc ∧ VD D9 ∧ VE D9 ∧ D9 3 = D 3 + 1 ∧ pC D9 (D 3) = 0 ∧ am_f3 h hh t b (t + 2)) (μ := fun (i : Int) (hh : AH) (D9 : Int → Int) (e9 : Int) (v9 : Int) (x9 : Int) => (800 - i).toNat) (G := fun (i : Int) (hh : AH) (D9 : Int → Int) (e9 : Int) (v9 : Int) (x9 : Int) => AQ w m_X6_readPolygon 7 118 [(0, vr t), (2, vi (D 3)), (3, vr (b + 6 + 3 * (Int.toNat (D 3)))), (4, vi i)] [] hh (am_int (fun z h1 => ((z = 1 ∧ ∃ D' he', rG kd st vl D he = .inr (D', he') ∧ (∃ nu' px', SU h1 t u b j kd st vl he' nu' px' cl hs er ea cd) ∧ BD h1 b D' cm sc) ∨ (z = 0 ∧ ∃ e a, rG kd st vl D he = .inl (e, a) ∧ SF h1 t u b j kd st vl e a ∧ BA h1 b)) ∧ am_f3 h h1 t b (t + 2)))) ?_ 0 h71 (gm_stP D (vl (he + 1)) xh31 yh31) ((((he + 1) + 1) + 1) + 1) yh31 xh31 (⟨⟨by omega, by omega⟩, by omega, rfl, ⟨_, k72, k73, k74, k75, k76, cj, k77, k78⟩, Xh71, Vh71, Eh71, Th71, Ch71, (((((am_f3.rf.tr (am_fr.t (am_fr.st e3 (by omega) (by omega)))).tr (am_fr.t Fh20)).tr (am_fr.t Fh31)).tr (am_fr.t (am_fr.st e54 (by omega) (by omega)))).tr (am_fr.b Fh71))⟩)
          intro i hh D9 e9 v9 x9 hI83 ih82
          obtain ⟨⟨i0, i1⟩, ⟨e0, e1⟩, hrk, hS9, hB9, hD9, hE9, hT9, hC9, hf9⟩ := hI83
          obtain ⟨wt, w0, w1, w2, w3, w4, wj, w5, wL⟩ := id hS9
          obtain ⟨⟨ya, yb, yc, ⟨y0, y1, y2, y3, y4, y5⟩, yt⟩, -, -⟩ := id hB9
          have dd9 := hD9.2.2.2.1
          have dd0 := hD9.1
          have dd1 := hD9.2.1
          have kr9 := kr e9 (by omega) (by omega)
          refine q_blk (lv2 := [(0, vr t), (2, vi (D 3)), (3, vr (b + 6 + 3 * (Int.toNat (D 3)))), (4, vi i)]) (st2 := [vi 800, vi i]) kX6_readPolygon_118 rfl ?_
          refine AQ.ic_ge (tgt := 201) eX6_readPolygon_123 (by decide) (by first | assumption | exact ⟨by omega, by omega⟩) ⟨by decide, by decide⟩ (fun br84 => ?_) (fun br84 => ?_)
          · skip
            have hend : rK kd st vl (D 3) 800 (gm_stP D (vl (he + 1)) xh31 yh31) ((((he + 1) + 1) + 1) + 1) = .inr (D9, e9) := by rw [← hrk]; exact rK_end (by omega)
            refine q_blk (lv2 := [(0, vr t), (2, vi (D 3)), (3, vr (b + 6 + 3 * (Int.toNat (D 3)))), (4, vi i)]) (st2 := [vr t]) kX6_readPolygon_201 rfl ?_
            refine q_Vi (av := []) (st := []) (c_X6_kindHere ⟨_, w0, w1, w2, w3, w4, cj, w5, wL⟩ (by omega) (by omega)) lk_RX6_70 (by decide) rfl rfl ⟨_, _, _, w0⟩ ⟨_, rfl, rfl⟩ (Nat.le_of_ble_eq_true rfl) eX6_readPolygon_202 (fun z85 e86 => ?_)
            subst e86
            refine q_blk (lv2 := [(0, vr t), (2, vi (D 3)), (3, vr (b + 6 + 3 * (Int.toNat (D 3)))), (4, vi i)]) (st2 := [vi 59, vi (kd e9)]) kX6_readPolygon_205 rfl ?_
            refine AQ.ic_ne (tgt := 228) eX6_readPolygon_207 (by decide) (by first | assumption | exact ⟨by omega, by omega⟩) ⟨by decide, by decide⟩ (fun br87 => ?_) (fun br87 => ?_)
            · skip
              have v88 := hB9.sh (p := D 3) (by omega) (by omega)
              obtain ⟨v88x, v88y, v88P, v88n, v88c, v88z⟩ := id v88
              have v88V := hD9.vc (p := D 3) (by omega) (by omega)
              refine q_blk (lv2 := [(0, vr t), (2, vi (D 3)), (3, vr (b + 6 + 3 * (Int.toNat (D 3)))), (4, vi i)]) (st2 := [vi 1, vr (b + 6 + 3 * (Int.toNat (D 3)))]) kX6_readPolygon_228 rfl ?_
              refine q_pi eX6_readPolygon_230 fl_RX6_212 (fun q hq => by cases hq; exact Or.inl rfl) (Or.inr ⟨rfl, by first | decide | omega⟩) v88P.1 (Nat.le_of_ble_eq_true rfl) (l2 := [0, 0, (pO D9 (D 3)), (pN D9 (D 3)), 1]) rfl (fun h89 e90 => ?_)
              have k91 := (am_ne e90 t (by omega)).trans w0
              have k92 := (am_ne e90 (t + 3) (by omega)).trans w1
              have k93 := (am_ne e90 (t + 4) (by omega)).trans w2
              have k94 := (am_ne e90 (t + 5) (by omega)).trans w3
              have k95 := (am_ne e90 (t + 6) (by omega)).trans w4
              have k96 := (am_ne e90 j (by omega)).trans w5
              have k97 := wL.kept (lo := (b + 6 + 3 * (Int.toNat (D 3)))) (hi := (b + 6 + 3 * (Int.toNat (D 3))) + 1) (am_fr.st e90 (by omega) (by omega)) (by omega)
              have k98 := (am_ne e90 b (by omega)).trans y0
              have k99 := (am_ne e90 (b + 1) (by omega)).trans y1
              have k100 := (am_ne e90 (b + 2) (by omega)).trans y2
              have k101 := (am_ne e90 (b + 3) (by omega)).trans y3
              have k102 := (am_ne e90 (b + 4) (by omega)).trans y4
              have k103 := (am_ne e90 (b + 5) (by omega)).trans y5
              have k104 := am_at e90
              have k105 := (am_ne e90 ((b + 6 + 3 * (Int.toNat (D 3))) + 1) (by omega)).trans v88P.2.1
              have k106 := (am_ne e90 ((b + 6 + 3 * (Int.toNat (D 3))) + 2) (by omega)).trans v88P.2.2
              have BB9 : BD h89 b (gm_clP D9 (D 3)) cm sc := hB9.setP hD9 (by omega) (by omega) ⟨v88x, v88y, ⟨k104, k105, k106⟩, v88n, Or.inr rfl, v88z⟩ (am_fr.st e90 (by omega) (by omega))
              have W9 : (gm_clP D9 (D 3)) 3 = D 3 + 1 := (gm_setP_o (by omega)).trans hT9
              have FB9 : am_fr _ _ b (b + 24) := am_fr.st e90 (by omega) (by omega)
              refine q_blk (lv2 := [(0, vr t), (2, vi (D 3)), (3, vr (b + 6 + 3 * (Int.toNat (D 3)))), (4, vi i)]) (st2 := [vi 59, vr t]) kX6_readPolygon_233 rfl ?_
              refine AQ.callVi (av := [vi 59]) (st := []) (c_X6_take ⟨_, k91, k92, k93, k94, k95, cj, k96, k97⟩ (by omega) (by omega) kr vq (k := 59) (by omega) (by omega)) lk_RX6_166 (by decide) rfl rfl ⟨_, _, _, k91⟩ ⟨_, rfl, rfl⟩ (Nat.le_of_ble_eq_true rfl) eX6_readPolygon_236 (fun z107 h109 e108 => ?_)
              rcases e108 with ⟨⟨rfl, qh109, Xh109⟩ | ⟨rfl, qh109, Xh109⟩, Fh109⟩
              · skip
                obtain ⟨g110t, g1100, g1101, g1102, g1103, g1104, g110j, g1105, g110L⟩ := id Xh109
                have k111 := (Fh109.2 b (by omega)).trans k98
                have k112 := BB9.kept Fh109 (by omega) (by omega)
                have nh109 : e9 ≠ n := fun e9 => by rw [e9] at qh109; omega
                exact q_rz rfl eX6_readPolygon_239 (by decide) ⟨1, rfl, Or.inl ⟨rfl, D, 0, absurd qh109 (by omega), absurd qh109 (by omega), absurd qh109 (by omega)⟩, (((am_f3.rf.tr hf9).tr (am_fr.b FB9)).tr (am_fr.t Fh109))⟩
              · skip
                obtain ⟨g113t, g1130, g1131, g1132, g1133, g1134, g113j, g1135, g113L⟩ := id Xh109
                have k114 := (Fh109.2 b (by omega)).trans k98
                have k115 := BB9.kept Fh109 (by omega) (by omega)
                exact q_rz rfl eX6_readPolygon_239 (by decide) ⟨0, rfl, Or.inr ⟨rfl, _, _, by unfold rG; rw [if_pos (by omega)]; exact (rB_r qh20 _).trans ((rB_r qh31 _).trans ((gm_ite_f e41).trans ((rB_r hend _).trans (if_neg (by omega))))), ⟨_, _, _, _, _, _, ⟨_, g1130, g1131, g1132, g1133, g1134, cj, g1135, g113L⟩, by omega, by omega⟩, BD.ba k115⟩, (((am_f3.rf.tr hf9).tr (am_fr.b FB9)).tr (am_fr.t Fh109))⟩
            · skip
              refine q_blk (lv2 := [(0, vr t), (2, vi (D 3)), (3, vr (b + 6 + 3 * (Int.toNat (D 3)))), (4, vi i)]) (st2 := [vr t]) kX6_readPolygon_210 rfl ?_
              refine q_gr eX6_readPolygon_211 fl_RX6_58 (Or.inl ⟨_, rfl⟩) w0 rfl ?_
              refine q_blk (lv2 := [(0, vr t), (2, vi (D 3)), (3, vr (b + 6 + 3 * (Int.toNat (D 3)))), (4, vi i)]) (st2 := [vi (D 3), vr j]) kX6_readPolygon_214 rfl ?_
              refine AQ.callVi (av := [vi (D 3)]) (st := []) (c_X3_reasonOfClosing w5 hB9 hD9 hE9 wL (by omega) (by omega) (p := D 3) (by omega) (by omega)) lk_RX6_209 (by decide) rfl rfl (JD.ob w5) ⟨_, rfl, rfl⟩ (Nat.le_of_ble_eq_true rfl) eX6_readPolygon_215 (fun z116 h118 e117 => ?_)
              obtain ⟨Rh118, Lh118, Fh118⟩ := e117
              have Qh118 := gm_rL_r Rh118
              have k119 := (Fh118.2 t (by omega)).trans w0
              have k120 := (Fh118.2 (t + 3) (by omega)).trans w1
              have k121 := (Fh118.2 (t + 4) (by omega)).trans w2
              have k122 := (Fh118.2 (t + 5) (by omega)).trans w3
              have k123 := (Fh118.2 (t + 6) (by omega)).trans w4
              have k124 := (Fh118.2 j (by omega)).trans w5
              have k125 := (Fh118.2 b (by omega)).trans y0
              have k126 := hB9.kept Fh118 (by omega) (by omega)
              have k127 := (Fh118.2 (b + 1) (by omega)).trans y1
              have k128 := (Fh118.2 (b + 2) (by omega)).trans y2
              have k129 := (Fh118.2 (b + 3) (by omega)).trans y3
              have k130 := (Fh118.2 (b + 4) (by omega)).trans y4
              have k131 := (Fh118.2 (b + 5) (by omega)).trans y5
              refine AQ.if_eq (tgt := 228) eX6_readPolygon_218 (by decide) (by first | assumption | exact ⟨by omega, by omega⟩) (fun br132 => ?_) (fun br132 => ?_)
              · skip
                have R0 := Rh118
                rw [show z116 = 0 by omega] at R0
                have r0 := gm_rL_0 R0
                have v133 := k126.sh (p := D 3) (by omega) (by omega)
                obtain ⟨v133x, v133y, v133P, v133n, v133c, v133z⟩ := id v133
                have v133V := hD9.vc (p := D 3) (by omega) (by omega)
                refine q_blk (lv2 := [(0, vr t), (2, vi (D 3)), (3, vr (b + 6 + 3 * (Int.toNat (D 3)))), (4, vi i)]) (st2 := [vi 1, vr (b + 6 + 3 * (Int.toNat (D 3)))]) kX6_readPolygon_228 rfl ?_
                refine q_pi eX6_readPolygon_230 fl_RX6_212 (fun q hq => by cases hq; exact Or.inl rfl) (Or.inr ⟨rfl, by first | decide | omega⟩) v133P.1 (Nat.le_of_ble_eq_true rfl) (l2 := [0, 0, (pO D9 (D 3)), (pN D9 (D 3)), 1]) rfl (fun h134 e135 => ?_)
                have k136 := (am_ne e135 t (by omega)).trans k119
                have k137 := (am_ne e135 (t + 3) (by omega)).trans k120
                have k138 := (am_ne e135 (t + 4) (by omega)).trans k121
                have k139 := (am_ne e135 (t + 5) (by omega)).trans k122
                have k140 := (am_ne e135 (t + 6) (by omega)).trans k123
                have k141 := (am_ne e135 j (by omega)).trans k124
                have k142 := Lh118.kept (lo := (b + 6 + 3 * (Int.toNat (D 3)))) (hi := (b + 6 + 3 * (Int.toNat (D 3))) + 1) (am_fr.st e135 (by omega) (by omega)) (by omega)
                have k143 := (am_ne e135 b (by omega)).trans k125
                have k144 := (am_ne e135 (b + 1) (by omega)).trans k127
                have k145 := (am_ne e135 (b + 2) (by omega)).trans k128
                have k146 := (am_ne e135 (b + 3) (by omega)).trans k129
                have k147 := (am_ne e135 (b + 4) (by omega)).trans k130
                have k148 := (am_ne e135 (b + 5) (by omega)).trans k131
                have k149 := am_at e135
                have k150 := (am_ne e135 ((b + 6 + 3 * (Int.toNat (D 3))) + 1) (by omega)).trans v133P.2.1
                have k151 := (am_ne e135 ((b + 6 + 3 * (Int.toNat (D 3))) + 2) (by omega)).trans v133P.2.2
                have BB9 : BD h134 b (gm_clP D9 (D 3)) cm sc := k126.setP hD9 (by omega) (by omega) ⟨v133x, v133y, ⟨k149, k150, k151⟩, v133n, Or.inr rfl, v133z⟩ (am_fr.st e135 (by omega) (by omega))
                have W9 : (gm_clP D9 (D 3)) 3 = D 3 + 1 := (gm_setP_o (by omega)).trans hT9
                have FB9 : am_fr _ _ b (b + 24) := am_fr.st e135 (by omega) (by omega)
                refine q_blk (lv2 := [(0, vr t), (2, vi (D 3)), (3, vr (b + 6 + 3 * (Int.toNat (D 3)))), (4, vi i)]) (st2 := [vi 59, vr t]) kX6_readPolygon_233 rfl ?_
                refine AQ.callVi (av := [vi 59]) (st := []) (c_X6_take ⟨_, k136, k137, k138, k139, k140, cj, k141, k142⟩ (by omega) (by omega) kr vq (k := 59) (by omega) (by omega)) lk_RX6_166 (by decide) rfl rfl ⟨_, _, _, k136⟩ ⟨_, rfl, rfl⟩ (Nat.le_of_ble_eq_true rfl) eX6_readPolygon_236 (fun z152 h154 e153 => ?_)
                rcases e153 with ⟨⟨rfl, qh154, Xh154⟩ | ⟨rfl, qh154, Xh154⟩, Fh154⟩
                · skip
                  obtain ⟨g155t, g1550, g1551, g1552, g1553, g1554, g155j, g1555, g155L⟩ := id Xh154
                  have k156 := (Fh154.2 b (by omega)).trans k143
                  have k157 := BB9.kept Fh154 (by omega) (by omega)
                  have nh154 : e9 ≠ n := fun e9 => by rw [e9] at qh154; omega
                  exact q_rz rfl eX6_readPolygon_239 (by decide) ⟨1, rfl, Or.inl ⟨rfl, _, _, by unfold rG; rw [if_pos (by omega)]; exact (rB_r qh20 _).trans ((rB_r qh31 _).trans ((gm_ite_f e41).trans ((rB_r hend _).trans ((if_pos (by omega)).trans (gm_ite_t R0))))), ⟨_, _, ⟨_, g1550, g1551, g1552, g1553, g1554, cj, g1555, g155L⟩⟩, k157⟩, ((((am_f3.rf.tr hf9).tr (am_fr.l Fh118)).tr (am_fr.b FB9)).tr (am_fr.t Fh154))⟩
                · skip
                  obtain ⟨g158t, g1580, g1581, g1582, g1583, g1584, g158j, g1585, g158L⟩ := id Xh154
                  have k159 := (Fh154.2 b (by omega)).trans k143
                  have k160 := BB9.kept Fh154 (by omega) (by omega)
                  exact q_rz rfl eX6_readPolygon_239 (by decide) ⟨0, rfl, Or.inr ⟨rfl, 0, 0, absurd (by omega) qh154, absurd (by omega) qh154, absurd (by omega) qh154⟩, ((((am_f3.rf.tr hf9).tr (am_fr.l Fh118)).tr (am_fr.b FB9)).tr (am_fr.t Fh154))⟩
              · skip
                refine q_blk (lv2 := [(0, vr t), (2, vi (D 3)), (3, vr (b + 6 + 3 * (Int.toNat (D 3)))), (4, vi i)]) (st2 := [vi (-4), vr t]) kX6_readPolygon_221 rfl ?_
                refine AQ.callVi (av := [vi (-4)]) (st := []) (c_X6_fail (e := (-4)) ⟨_, k119, k120, k121, k122, k123, cj, k124, Lh118⟩ (by omega) (by omega)) lk_RX6_83 (by decide) rfl rfl ⟨_, _, _, k119⟩ ⟨_, rfl, rfl⟩ (Nat.le_of_ble_eq_true rfl) eX6_readPolygon_224 (fun z161 h163 e162 => ?_)
                obtain ⟨z1610, Xh163, Fh163⟩ := e162
                subst z1610
                obtain ⟨g164t, g1640, g1641, g1642, g1643, g1644, g164j, g1645, g164L⟩ := id Xh163
                have k165 := (Fh163.2 b (by omega)).trans k125
                have k166 := k126.kept Fh163 (by omega) (by omega)
                have k167 := (Fh163.2 (b + 1) (by omega)).trans k127
                have k168 := (Fh163.2 (b + 2) (by omega)).trans k128
                have k169 := (Fh163.2 (b + 3) (by omega)).trans k129
                have k170 := (Fh163.2 (b + 4) (by omega)).trans k130
                have k171 := (Fh163.2 (b + 5) (by omega)).trans k131
                exact q_rz rfl eX6_readPolygon_227 (by decide) ⟨0, rfl, Or.inr ⟨rfl, _, _, by unfold rG; rw [if_pos (by omega)]; exact (rB_r qh20 _).trans ((rB_r qh31 _).trans ((gm_ite_f e41).trans ((rB_r hend _).trans ((if_pos (by omega)).trans (gm_ite_f (fun R0 => absurd (gm_rL_one Rh118 R0) (by omega))))))), ⟨_, _, _, _, _, _, ⟨_, g1640, g1641, g1642, g1643, g1644, cj, g1645, g164L⟩, by omega, by omega⟩, BD.ba k166⟩, (((am_f3.rf.tr hf9).tr (am_fr.l Fh118)).tr (am_fr.t Fh163))⟩
          · skip
            refine q_blk (lv2 := [(0, vr t), (2, vi (D 3)), (3, vr (b + 6 + 3 * (Int.toNat (D 3)))), (4, vi i)]) (st2 := [vr t]) kX6_readPolygon_126 rfl ?_
            refine q_Vi (av := []) (st := []) (c_X6_kindHere ⟨_, w0, w1, w2, w3, w4, cj, w5, wL⟩ (by omega) (by omega)) lk_RX6_70 (by decide) rfl rfl ⟨_, _, _, w0⟩ ⟨_, rfl, rfl⟩ (Nat.le_of_ble_eq_true rfl) eX6_readPolygon_127 (fun z172 e173 => ?_)
            subst e173
            refine q_blk (lv2 := [(0, vr t), (2, vi (D 3)), (3, vr (b + 6 + 3 * (Int.toNat (D 3)))), (4, vi i)]) (st2 := [vi 2, vi (kd e9)]) kX6_readPolygon_130 rfl ?_
            refine AQ.ic_ne (tgt := 201) eX6_readPolygon_131 (by decide) (by first | assumption | exact ⟨by omega, by omega⟩) ⟨by decide, by decide⟩ (fun br174 => ?_) (fun br174 => ?_)
            · skip
              have hend : rK kd st vl (D 3) 800 (gm_stP D (vl (he + 1)) xh31 yh31) ((((he + 1) + 1) + 1) + 1) = .inr (D9, e9) := by rw [← hrk]; exact rK_end (by omega)
              refine q_blk (lv2 := [(0, vr t), (2, vi (D 3)), (3, vr (b + 6 + 3 * (Int.toNat (D 3)))), (4, vi i)]) (st2 := [vr t]) kX6_readPolygon_201 rfl ?_
              refine q_Vi (av := []) (st := []) (c_X6_kindHere ⟨_, w0, w1, w2, w3, w4, cj, w5, wL⟩ (by omega) (by omega)) lk_RX6_70 (by decide) rfl rfl ⟨_, _, _, w0⟩ ⟨_, rfl, rfl⟩ (Nat.le_of_ble_eq_true rfl) eX6_readPolygon_202 (fun z175 e176 => ?_)
              subst e176
              refine q_blk (lv2 := [(0, vr t), (2, vi (D 3)), (3, vr (b + 6 + 3 * (Int.toNat (D 3)))), (4, vi i)]) (st2 := [vi 59, vi (kd e9)]) kX6_readPolygon_205 rfl ?_
              refine AQ.ic_ne (tgt := 228) eX6_readPolygon_207 (by decide) (by first | assumption | exact ⟨by omega, by omega⟩) ⟨by decide, by decide⟩ (fun br177 => ?_) (fun br177 => ?_)
              · skip
                have v178 := hB9.sh (p := D 3) (by omega) (by omega)
                obtain ⟨v178x, v178y, v178P, v178n, v178c, v178z⟩ := id v178
                have v178V := hD9.vc (p := D 3) (by omega) (by omega)
                refine q_blk (lv2 := [(0, vr t), (2, vi (D 3)), (3, vr (b + 6 + 3 * (Int.toNat (D 3)))), (4, vi i)]) (st2 := [vi 1, vr (b + 6 + 3 * (Int.toNat (D 3)))]) kX6_readPolygon_228 rfl ?_
                refine q_pi eX6_readPolygon_230 fl_RX6_212 (fun q hq => by cases hq; exact Or.inl rfl) (Or.inr ⟨rfl, by first | decide | omega⟩) v178P.1 (Nat.le_of_ble_eq_true rfl) (l2 := [0, 0, (pO D9 (D 3)), (pN D9 (D 3)), 1]) rfl (fun h179 e180 => ?_)
                have k181 := (am_ne e180 t (by omega)).trans w0
                have k182 := (am_ne e180 (t + 3) (by omega)).trans w1
                have k183 := (am_ne e180 (t + 4) (by omega)).trans w2
                have k184 := (am_ne e180 (t + 5) (by omega)).trans w3
                have k185 := (am_ne e180 (t + 6) (by omega)).trans w4
                have k186 := (am_ne e180 j (by omega)).trans w5
                have k187 := wL.kept (lo := (b + 6 + 3 * (Int.toNat (D 3)))) (hi := (b + 6 + 3 * (Int.toNat (D 3))) + 1) (am_fr.st e180 (by omega) (by omega)) (by omega)
                have k188 := (am_ne e180 b (by omega)).trans y0
                have k189 := (am_ne e180 (b + 1) (by omega)).trans y1
                have k190 := (am_ne e180 (b + 2) (by omega)).trans y2
                have k191 := (am_ne e180 (b + 3) (by omega)).trans y3
                have k192 := (am_ne e180 (b + 4) (by omega)).trans y4
                have k193 := (am_ne e180 (b + 5) (by omega)).trans y5
                have k194 := am_at e180
                have k195 := (am_ne e180 ((b + 6 + 3 * (Int.toNat (D 3))) + 1) (by omega)).trans v178P.2.1
                have k196 := (am_ne e180 ((b + 6 + 3 * (Int.toNat (D 3))) + 2) (by omega)).trans v178P.2.2
                have BB9 : BD h179 b (gm_clP D9 (D 3)) cm sc := hB9.setP hD9 (by omega) (by omega) ⟨v178x, v178y, ⟨k194, k195, k196⟩, v178n, Or.inr rfl, v178z⟩ (am_fr.st e180 (by omega) (by omega))
                have W9 : (gm_clP D9 (D 3)) 3 = D 3 + 1 := (gm_setP_o (by omega)).trans hT9
                have FB9 : am_fr _ _ b (b + 24) := am_fr.st e180 (by omega) (by omega)
                refine q_blk (lv2 := [(0, vr t), (2, vi (D 3)), (3, vr (b + 6 + 3 * (Int.toNat (D 3)))), (4, vi i)]) (st2 := [vi 59, vr t]) kX6_readPolygon_233 rfl ?_
                refine AQ.callVi (av := [vi 59]) (st := []) (c_X6_take ⟨_, k181, k182, k183, k184, k185, cj, k186, k187⟩ (by omega) (by omega) kr vq (k := 59) (by omega) (by omega)) lk_RX6_166 (by decide) rfl rfl ⟨_, _, _, k181⟩ ⟨_, rfl, rfl⟩ (Nat.le_of_ble_eq_true rfl) eX6_readPolygon_236 (fun z197 h199 e198 => ?_)
                rcases e198 with ⟨⟨rfl, qh199, Xh199⟩ | ⟨rfl, qh199, Xh199⟩, Fh199⟩
                · skip
                  obtain ⟨g200t, g2000, g2001, g2002, g2003, g2004, g200j, g2005, g200L⟩ := id Xh199
                  have k201 := (Fh199.2 b (by omega)).trans k188
                  have k202 := BB9.kept Fh199 (by omega) (by omega)
                  have nh199 : e9 ≠ n := fun e9 => by rw [e9] at qh199; omega
                  exact q_rz rfl eX6_readPolygon_239 (by decide) ⟨1, rfl, Or.inl ⟨rfl, D, 0, absurd qh199 (by omega), absurd qh199 (by omega), absurd qh199 (by omega)⟩, (((am_f3.rf.tr hf9).tr (am_fr.b FB9)).tr (am_fr.t Fh199))⟩
                · skip
                  obtain ⟨g203t, g2030, g2031, g2032, g2033, g2034, g203j, g2035, g203L⟩ := id Xh199
                  have k204 := (Fh199.2 b (by omega)).trans k188
                  have k205 := BB9.kept Fh199 (by omega) (by omega)
                  exact q_rz rfl eX6_readPolygon_239 (by decide) ⟨0, rfl, Or.inr ⟨rfl, _, _, by unfold rG; rw [if_pos (by omega)]; exact (rB_r qh20 _).trans ((rB_r qh31 _).trans ((gm_ite_f e41).trans ((rB_r hend _).trans (if_neg (by omega))))), ⟨_, _, _, _, _, _, ⟨_, g2030, g2031, g2032, g2033, g2034, cj, g2035, g203L⟩, by omega, by omega⟩, BD.ba k205⟩, (((am_f3.rf.tr hf9).tr (am_fr.b FB9)).tr (am_fr.t Fh199))⟩
              · skip
                refine q_blk (lv2 := [(0, vr t), (2, vi (D 3)), (3, vr (b + 6 + 3 * (Int.toNat (D 3)))), (4, vi i)]) (st2 := [vr t]) kX6_readPolygon_210 rfl ?_
                refine q_gr eX6_readPolygon_211 fl_RX6_58 (Or.inl ⟨_, rfl⟩) w0 rfl ?_
                refine q_blk (lv2 := [(0, vr t), (2, vi (D 3)), (3, vr (b + 6 + 3 * (Int.toNat (D 3)))), (4, vi i)]) (st2 := [vi (D 3), vr j]) kX6_readPolygon_214 rfl ?_
                refine AQ.callVi (av := [vi (D 3)]) (st := []) (c_X3_reasonOfClosing w5 hB9 hD9 hE9 wL (by omega) (by omega) (p := D 3) (by omega) (by omega)) lk_RX6_209 (by decide) rfl rfl (JD.ob w5) ⟨_, rfl, rfl⟩ (Nat.le_of_ble_eq_true rfl) eX6_readPolygon_215 (fun z206 h208 e207 => ?_)
                obtain ⟨Rh208, Lh208, Fh208⟩ := e207
                have Qh208 := gm_rL_r Rh208
                have k209 := (Fh208.2 t (by omega)).trans w0
                have k210 := (Fh208.2 (t + 3) (by omega)).trans w1
                have k211 := (Fh208.2 (t + 4) (by omega)).trans w2
                have k212 := (Fh208.2 (t + 5) (by omega)).trans w3
                have k213 := (Fh208.2 (t + 6) (by omega)).trans w4
                have k214 := (Fh208.2 j (by omega)).trans w5
                have k215 := (Fh208.2 b (by omega)).trans y0
                have k216 := hB9.kept Fh208 (by omega) (by omega)
                have k217 := (Fh208.2 (b + 1) (by omega)).trans y1
                have k218 := (Fh208.2 (b + 2) (by omega)).trans y2
                have k219 := (Fh208.2 (b + 3) (by omega)).trans y3
                have k220 := (Fh208.2 (b + 4) (by omega)).trans y4
                have k221 := (Fh208.2 (b + 5) (by omega)).trans y5
                refine AQ.if_eq (tgt := 228) eX6_readPolygon_218 (by decide) (by first | assumption | exact ⟨by omega, by omega⟩) (fun br222 => ?_) (fun br222 => ?_)
                · skip
                  have R0 := Rh208
                  rw [show z206 = 0 by omega] at R0
                  have r0 := gm_rL_0 R0
                  have v223 := k216.sh (p := D 3) (by omega) (by omega)
                  obtain ⟨v223x, v223y, v223P, v223n, v223c, v223z⟩ := id v223
                  have v223V := hD9.vc (p := D 3) (by omega) (by omega)
                  refine q_blk (lv2 := [(0, vr t), (2, vi (D 3)), (3, vr (b + 6 + 3 * (Int.toNat (D 3)))), (4, vi i)]) (st2 := [vi 1, vr (b + 6 + 3 * (Int.toNat (D 3)))]) kX6_readPolygon_228 rfl ?_
                  refine q_pi eX6_readPolygon_230 fl_RX6_212 (fun q hq => by cases hq; exact Or.inl rfl) (Or.inr ⟨rfl, by first | decide | omega⟩) v223P.1 (Nat.le_of_ble_eq_true rfl) (l2 := [0, 0, (pO D9 (D 3)), (pN D9 (D 3)), 1]) rfl (fun h224 e225 => ?_)
                  have k226 := (am_ne e225 t (by omega)).trans k209
                  have k227 := (am_ne e225 (t + 3) (by omega)).trans k210
                  have k228 := (am_ne e225 (t + 4) (by omega)).trans k211
                  have k229 := (am_ne e225 (t + 5) (by omega)).trans k212
                  have k230 := (am_ne e225 (t + 6) (by omega)).trans k213
                  have k231 := (am_ne e225 j (by omega)).trans k214
                  have k232 := Lh208.kept (lo := (b + 6 + 3 * (Int.toNat (D 3)))) (hi := (b + 6 + 3 * (Int.toNat (D 3))) + 1) (am_fr.st e225 (by omega) (by omega)) (by omega)
                  have k233 := (am_ne e225 b (by omega)).trans k215
                  have k234 := (am_ne e225 (b + 1) (by omega)).trans k217
                  have k235 := (am_ne e225 (b + 2) (by omega)).trans k218
                  have k236 := (am_ne e225 (b + 3) (by omega)).trans k219
                  have k237 := (am_ne e225 (b + 4) (by omega)).trans k220
                  have k238 := (am_ne e225 (b + 5) (by omega)).trans k221
                  have k239 := am_at e225
                  have k240 := (am_ne e225 ((b + 6 + 3 * (Int.toNat (D 3))) + 1) (by omega)).trans v223P.2.1
                  have k241 := (am_ne e225 ((b + 6 + 3 * (Int.toNat (D 3))) + 2) (by omega)).trans v223P.2.2
                  have BB9 : BD h224 b (gm_clP D9 (D 3)) cm sc := k216.setP hD9 (by omega) (by omega) ⟨v223x, v223y, ⟨k239, k240, k241⟩, v223n, Or.inr rfl, v223z⟩ (am_fr.st e225 (by omega) (by omega))
                  have W9 : (gm_clP D9 (D 3)) 3 = D 3 + 1 := (gm_setP_o (by omega)).trans hT9
                  have FB9 : am_fr _ _ b (b + 24) := am_fr.st e225 (by omega) (by omega)
                  refine q_blk (lv2 := [(0, vr t), (2, vi (D 3)), (3, vr (b + 6 + 3 * (Int.toNat (D 3)))), (4, vi i)]) (st2 := [vi 59, vr t]) kX6_readPolygon_233 rfl ?_
                  refine AQ.callVi (av := [vi 59]) (st := []) (c_X6_take ⟨_, k226, k227, k228, k229, k230, cj, k231, k232⟩ (by omega) (by omega) kr vq (k := 59) (by omega) (by omega)) lk_RX6_166 (by decide) rfl rfl ⟨_, _, _, k226⟩ ⟨_, rfl, rfl⟩ (Nat.le_of_ble_eq_true rfl) eX6_readPolygon_236 (fun z242 h244 e243 => ?_)
                  rcases e243 with ⟨⟨rfl, qh244, Xh244⟩ | ⟨rfl, qh244, Xh244⟩, Fh244⟩
                  · skip
                    obtain ⟨g245t, g2450, g2451, g2452, g2453, g2454, g245j, g2455, g245L⟩ := id Xh244
                    have k246 := (Fh244.2 b (by omega)).trans k233
                    have k247 := BB9.kept Fh244 (by omega) (by omega)
                    have nh244 : e9 ≠ n := fun e9 => by rw [e9] at qh244; omega
                    exact q_rz rfl eX6_readPolygon_239 (by decide) ⟨1, rfl, Or.inl ⟨rfl, _, _, by unfold rG; rw [if_pos (by omega)]; exact (rB_r qh20 _).trans ((rB_r qh31 _).trans ((gm_ite_f e41).trans ((rB_r hend _).trans ((if_pos (by omega)).trans (gm_ite_t R0))))), ⟨_, _, ⟨_, g2450, g2451, g2452, g2453, g2454, cj, g2455, g245L⟩⟩, k247⟩, ((((am_f3.rf.tr hf9).tr (am_fr.l Fh208)).tr (am_fr.b FB9)).tr (am_fr.t Fh244))⟩
                  · skip
                    obtain ⟨g248t, g2480, g2481, g2482, g2483, g2484, g248j, g2485, g248L⟩ := id Xh244
                    have k249 := (Fh244.2 b (by omega)).trans k233
                    have k250 := BB9.kept Fh244 (by omega) (by omega)
                    exact q_rz rfl eX6_readPolygon_239 (by decide) ⟨0, rfl, Or.inr ⟨rfl, 0, 0, absurd (by omega) qh244, absurd (by omega) qh244, absurd (by omega) qh244⟩, ((((am_f3.rf.tr hf9).tr (am_fr.l Fh208)).tr (am_fr.b FB9)).tr (am_fr.t Fh244))⟩
                · skip
                  refine q_blk (lv2 := [(0, vr t), (2, vi (D 3)), (3, vr (b + 6 + 3 * (Int.toNat (D 3)))), (4, vi i)]) (st2 := [vi (-4), vr t]) kX6_readPolygon_221 rfl ?_
                  refine AQ.callVi (av := [vi (-4)]) (st := []) (c_X6_fail (e := (-4)) ⟨_, k209, k210, k211, k212, k213, cj, k214, Lh208⟩ (by omega) (by omega)) lk_RX6_83 (by decide) rfl rfl ⟨_, _, _, k209⟩ ⟨_, rfl, rfl⟩ (Nat.le_of_ble_eq_true rfl) eX6_readPolygon_224 (fun z251 h253 e252 => ?_)
                  obtain ⟨z2510, Xh253, Fh253⟩ := e252
                  subst z2510
                  obtain ⟨g254t, g2540, g2541, g2542, g2543, g2544, g254j, g2545, g254L⟩ := id Xh253
                  have k255 := (Fh253.2 b (by omega)).trans k215
                  have k256 := k216.kept Fh253 (by omega) (by omega)
                  have k257 := (Fh253.2 (b + 1) (by omega)).trans k217
                  have k258 := (Fh253.2 (b + 2) (by omega)).trans k218
                  have k259 := (Fh253.2 (b + 3) (by omega)).trans k219
                  have k260 := (Fh253.2 (b + 4) (by omega)).trans k220
                  have k261 := (Fh253.2 (b + 5) (by omega)).trans k221
                  exact q_rz rfl eX6_readPolygon_227 (by decide) ⟨0, rfl, Or.inr ⟨rfl, _, _, by unfold rG; rw [if_pos (by omega)]; exact (rB_r qh20 _).trans ((rB_r qh31 _).trans ((gm_ite_f e41).trans ((rB_r hend _).trans ((if_pos (by omega)).trans (gm_ite_f (fun R0 => absurd (gm_rL_one Rh208 R0) (by omega))))))), ⟨_, _, _, _, _, _, ⟨_, g2540, g2541, g2542, g2543, g2544, cj, g2545, g254L⟩, by omega, by omega⟩, BD.ba k256⟩, (((am_f3.rf.tr hf9).tr (am_fr.l Fh208)).tr (am_fr.t Fh253))⟩
            · skip
              refine q_blk (lv2 := [(0, vr t), (2, vi (D 3)), (3, vr (b + 6 + 3 * (Int.toNat (D 3)))), (4, vi i)]) (st2 := [vr t]) kX6_readPolygon_134 rfl ?_
              refine AQ.callVi (av := []) (st := []) (c_X6_seePoint ⟨_, w0, w1, w2, w3, w4, cj, w5, wL⟩ n0 kn (by omega) (by omega) kr vq (by omega) (by omega) hB9 hD9 (by omega)) lk_RX6_176 (by decide) rfl rfl ⟨_, _, _, w0⟩ ⟨_, rfl, rfl⟩ (Nat.le_of_ble_eq_true rfl) eX6_readPolygon_135 (fun z262 h264 e263 => ?_)
              rcases e263 with ⟨⟨rfl, xh264, yh264, qh264, Xh264⟩ | ⟨rfl, eh264, ah264, qh264, Xh264⟩, Fh264⟩
              · skip
                obtain ⟨g265t, g2650, g2651, g2652, g2653, g2654, g265j, g2655, g265L⟩ := id Xh264
                have k266 := (Fh264.2 b (by omega)).trans y0
                have k267 := hB9.kept Fh264 (by omega) (by omega)
                have k268 := (Fh264.2 (b + 1) (by omega)).trans y1
                have k269 := (Fh264.2 (b + 2) (by omega)).trans y2
                have k270 := (Fh264.2 (b + 3) (by omega)).trans y3
                have k271 := (Fh264.2 (b + 4) (by omega)).trans y4
                have k272 := (Fh264.2 (b + 5) (by omega)).trans y5
                have rh264 := rP_r qh264
                have nh264 : e9 + 1 ≠ n := fun e9 => by rw [e9] at rh264; omega
                have mh264 : e9 ≠ n := fun e9 => by rw [e9] at rh264; omega
                have h_xh264 : am_c xh264 := by unfold am_c; omega
                have h_yh264 : am_c yh264 := by unfold am_c; omega
                refine AQ.of (AS.if_ne_t (tgt := 143) eX6_readPolygon_138 (by decide) ⟨by decide, by decide⟩ (by decide)) ?_
                refine q_blk (lv2 := [(0, vr t), (2, vi (D 3)), (3, vr (b + 6 + 3 * (Int.toNat (D 3)))), (4, vi i)]) (st2 := [vr t]) kX6_readPolygon_143 rfl ?_
                refine q_gr eX6_readPolygon_144 fl_RX6_58 (Or.inl ⟨_, rfl⟩) g2650 rfl ?_
                refine q_blk (lv2 := [(0, vr t), (2, vi (D 3)), (3, vr (b + 6 + 3 * (Int.toNat (D 3)))), (4, vi i)]) (st2 := [vr t, vi (D 3), vr j]) kX6_readPolygon_147 rfl ?_
                refine q_gi eX6_readPolygon_149 fl_RX6_34 (Or.inl rfl) g2650 (z := xh264) rfl ?_
                refine q_blk (lv2 := [(0, vr t), (2, vi (D 3)), (3, vr (b + 6 + 3 * (Int.toNat (D 3)))), (4, vi i)]) (st2 := [vr t, vi xh264, vi (D 3), vr j]) kX6_readPolygon_152 rfl ?_
                refine q_gi eX6_readPolygon_153 fl_RX6_31 (Or.inl rfl) g2650 (z := yh264) rfl ?_
                refine AQ.callVi (av := [vi (D 3), vi xh264, vi yh264]) (st := []) (c_X3_reasonOfCorner g2655 k267 hD9 hE9 g265L (by omega) (by omega) (p := D 3) (by omega) (by omega) h_xh264 h_yh264) lk_RX6_196 (by decide) rfl rfl (JD.ob g2655) ⟨_, rfl, rfl⟩ (Nat.le_of_ble_eq_true rfl) eX6_readPolygon_156 (fun z273 h275 e274 => ?_)
                obtain ⟨Rh275, Lh275, Fh275⟩ := e274
                have Qh275 := gm_rC_r Rh275
                have k276 := (Fh275.2 t (by omega)).trans g2650
                have k277 := (Fh275.2 (t + 3) (by omega)).trans g2651
                have k278 := (Fh275.2 (t + 4) (by omega)).trans g2652
                have k279 := (Fh275.2 (t + 5) (by omega)).trans g2653
                have k280 := (Fh275.2 (t + 6) (by omega)).trans g2654
                have k281 := (Fh275.2 j (by omega)).trans g2655
                have k282 := (Fh275.2 b (by omega)).trans k266
                have k283 := k267.kept Fh275 (by omega) (by omega)
                have k284 := (Fh275.2 (b + 1) (by omega)).trans k268
                have k285 := (Fh275.2 (b + 2) (by omega)).trans k269
                have k286 := (Fh275.2 (b + 3) (by omega)).trans k270
                have k287 := (Fh275.2 (b + 4) (by omega)).trans k271
                have k288 := (Fh275.2 (b + 5) (by omega)).trans k272
                refine AQ.if_eq (tgt := 169) eX6_readPolygon_159 (by decide) (by first | assumption | exact ⟨by omega, by omega⟩) (fun br289 => ?_) (fun br289 => ?_)
                · skip
                  have R0 := Rh275
                  rw [show z273 = 0 by omega] at R0
                  have r0 := gm_rC_0 R0
                  refine q_blk (lv2 := [(0, vr t), (2, vi (D 3)), (3, vr (b + 6 + 3 * (Int.toNat (D 3)))), (4, vi i)]) (st2 := [vr t, vr t]) kX6_readPolygon_169 rfl ?_
                  refine q_gi eX6_readPolygon_171 fl_RX6_28 (Or.inl rfl) k276 (z := (e9 + 1)) rfl ?_
                  refine q_blk (lv2 := [(0, vr t), (2, vi (D 3)), (3, vr (b + 6 + 3 * (Int.toNat (D 3)))), (4, vi i)]) (st2 := [vi ((e9 + 1) + 1), vr t]) kX6_readPolygon_174 rfl ?_
                  refine q_pi eX6_readPolygon_176 fl_RX6_28 (fun q hq => by cases hq; exact Or.inl rfl) (Or.inl rfl) k276 (Nat.le_of_ble_eq_true rfl) (l2 := [0, 0, 0, 0, 0, 0, 0, g265t, ((e9 + 1) + 1), yh264, xh264, cl, hs, er, ea]) rfl (fun h290 e291 => ?_)
                  have k292 := am_at e291
                  have k293 := (am_ne e291 (t + 3) (by omega)).trans k277
                  have k294 := (am_ne e291 (t + 4) (by omega)).trans k278
                  have k295 := (am_ne e291 (t + 5) (by omega)).trans k279
                  have k296 := (am_ne e291 (t + 6) (by omega)).trans k280
                  have k297 := (am_ne e291 j (by omega)).trans k281
                  have k298 := Lh275.kept (lo := t) (hi := t + 1) (am_fr.st e291 (by omega) (by omega)) (by omega)
                  have k299 := (am_ne e291 b (by omega)).trans k282
                  have k300 := k283.kept (lo := t) (hi := t + 1) (am_fr.st e291 (by omega) (by omega)) (by omega) (by omega)
                  have k301 := (am_ne e291 (b + 1) (by omega)).trans k284
                  have k302 := (am_ne e291 (b + 2) (by omega)).trans k285
                  have k303 := (am_ne e291 (b + 3) (by omega)).trans k286
                  have k304 := (am_ne e291 (b + 4) (by omega)).trans k287
                  have k305 := (am_ne e291 (b + 5) (by omega)).trans k288
                  have v306 := k300.sh (p := D 3) (by omega) (by omega)
                  obtain ⟨v306x, v306y, v306P, v306n, v306c, v306z⟩ := id v306
                  have v306V := hD9.vc (p := D 3) (by omega) (by omega)
                  refine q_blk (lv2 := [(0, vr t), (2, vi (D 3)), (3, vr (b + 6 + 3 * (Int.toNat (D 3)))), (4, vi i)]) (st2 := [vr (b + 6 + 3 * (Int.toNat (D 3))), vr (b + 6 + 3 * (Int.toNat (D 3)))]) kX6_readPolygon_179 rfl ?_
                  refine q_gi eX6_readPolygon_181 fl_RX6_201 (Or.inl rfl) v306P.1 (z := (pN D9 (D 3))) rfl ?_
                  refine q_blk (lv2 := [(0, vr t), (2, vi (D 3)), (3, vr (b + 6 + 3 * (Int.toNat (D 3)))), (4, vi i)]) (st2 := [vr t, vi (pN D9 (D 3)), vr (b + 6 + 3 * (Int.toNat (D 3)))]) kX6_readPolygon_184 rfl ?_
                  refine q_gi eX6_readPolygon_185 fl_RX6_34 (Or.inl rfl) k292 (z := xh264) rfl ?_
                  refine q_blk (lv2 := [(0, vr t), (2, vi (D 3)), (3, vr (b + 6 + 3 * (Int.toNat (D 3)))), (4, vi i)]) (st2 := [vr t, vi xh264, vi (pN D9 (D 3)), vr (b + 6 + 3 * (Int.toNat (D 3)))]) kX6_readPolygon_188 rfl ?_
                  refine q_gi eX6_readPolygon_189 fl_RX6_31 (Or.inl rfl) k292 (z := yh264) rfl ?_
                  refine AQ.callVv (av := [vi (pN D9 (D 3)), vi xh264, vi yh264]) (st := []) (c_X7_insert v306 (by omega) (p := (pN D9 (D 3))) (x := xh264) (y := yh264) (by omega) (by omega)) lk_RX6_206 (by decide) rfl rfl v306.ob ⟨_, rfl, rfl⟩ (Nat.le_of_ble_eq_true rfl) eX6_readPolygon_192 (fun h309 e308 => ?_)
                  obtain ⟨Xh309, Fh309⟩ := e308
                  have Bh309 : BD h309 b (gm_adC D9 (D 3) xh264 yh264) cm sc := k300.setP hD9 (by omega) (by omega) Xh309 Fh309
                  have Gh309 := Fh309.mo (lo' := b) (hi' := b + 24) (by omega) (by omega)
                  have k310 := (Gh309.2 t (by omega)).trans k292
                  have k311 := (Gh309.2 (t + 3) (by omega)).trans k293
                  have k312 := (Gh309.2 (t + 4) (by omega)).trans k294
                  have k313 := (Gh309.2 (t + 5) (by omega)).trans k295
                  have k314 := (Gh309.2 (t + 6) (by omega)).trans k296
                  have k315 := (Gh309.2 j (by omega)).trans k297
                  have k316 := k298.kept Gh309 (by omega)
                  refine q_blk (lv2 := [(0, vr t), (2, vi (D 3)), (3, vr (b + 6 + 3 * (Int.toNat (D 3)))), (4, vi (i + 1))]) (st2 := []) kX6_readPolygon_195 rfl ?_
                  refine q_goto (tgt := 118) eX6_readPolygon_198 (by decide) ?_
                  exact ih82 (i + 1) h309 (gm_adC D9 (D 3) xh264 yh264) ((e9 + 1) + 1) yh264 xh264 (⟨⟨by omega, by omega⟩, by omega, by rw [show 800 - (i + 1).toNat = 800 - i.toNat - 1 by omega, ← hrk]; exact (rK_go (by omega) (by omega) qh264 R0).symm, ⟨_, k310, k311, k312, k313, k314, cj, k315, k316⟩, Bh309, gm_adC_vd hD9 (by omega) (by omega) r0.1 r0.2.1 (by omega) (by omega), gm_adC_ve hD9 hE9 (by omega) (by omega) r0.2.1 r0.2.2, (gm_setP_o (by omega)).trans hT9, gm_setP_c.trans hC9, (((((am_f3.rf.tr hf9).tr (am_fr.t Fh264)).tr (am_fr.l Fh275)).tr (am_fr.t (am_fr.st e291 (by omega) (by omega)))).tr (am_fr.b Gh309))⟩) (by omega)
                · skip
                  refine q_blk (lv2 := [(0, vr t), (2, vi (D 3)), (3, vr (b + 6 + 3 * (Int.toNat (D 3)))), (4, vi i)]) (st2 := [vi (-4), vr t]) kX6_readPolygon_162 rfl ?_
                  refine AQ.callVi (av := [vi (-4)]) (st := []) (c_X6_fail (e := (-4)) ⟨_, k276, k277, k278, k279, k280, cj, k281, Lh275⟩ (by omega) (by omega)) lk_RX6_83 (by decide) rfl rfl ⟨_, _, _, k276⟩ ⟨_, rfl, rfl⟩ (Nat.le_of_ble_eq_true rfl) eX6_readPolygon_165 (fun z317 h319 e318 => ?_)
                  obtain ⟨z3170, Xh319, Fh319⟩ := e318
                  subst z3170
                  obtain ⟨g320t, g3200, g3201, g3202, g3203, g3204, g320j, g3205, g320L⟩ := id Xh319
                  have k321 := (Fh319.2 b (by omega)).trans k282
                  have k322 := k283.kept Fh319 (by omega) (by omega)
                  have k323 := (Fh319.2 (b + 1) (by omega)).trans k284
                  have k324 := (Fh319.2 (b + 2) (by omega)).trans k285
                  have k325 := (Fh319.2 (b + 3) (by omega)).trans k286
                  have k326 := (Fh319.2 (b + 4) (by omega)).trans k287
                  have k327 := (Fh319.2 (b + 5) (by omega)).trans k288
                  exact q_rz rfl eX6_readPolygon_168 (by decide) ⟨0, rfl, Or.inr ⟨rfl, _, _, by unfold rG; rw [if_pos (by omega)]; exact (rB_r qh20 _).trans ((rB_r qh31 _).trans ((gm_ite_f e41).trans (rB_l (hrk.symm.trans (rK_x (by omega) (by omega) qh264 (fun R0 => absurd (gm_rC_one Rh275 R0) (by omega)))) _))), ⟨_, _, _, _, _, _, ⟨_, g3200, g3201, g3202, g3203, g3204, cj, g3205, g320L⟩, by omega, by omega⟩, BD.ba k322⟩, ((((am_f3.rf.tr hf9).tr (am_fr.t Fh264)).tr (am_fr.l Fh275)).tr (am_fr.t Fh319))⟩
              · skip
                have k328 := hB9.kept Fh264 (by omega) (by omega)
                refine AQ.of (AS.if_ne_f eX6_readPolygon_138 ⟨by decide, by decide⟩ (by decide) (by decide)) ?_
                refine q_blk (lv2 := [(0, vr t), (2, vi (D 3)), (3, vr (b + 6 + 3 * (Int.toNat (D 3)))), (4, vi i)]) (st2 := [vi 0]) kX6_readPolygon_141 rfl ?_
                exact q_rz rfl eX6_readPolygon_142 (by decide) ⟨0, rfl, Or.inr ⟨rfl, _, _, by unfold rG; rw [if_pos (by omega)]; exact (rB_r qh20 _).trans ((rB_r qh31 _).trans ((gm_ite_f e41).trans (rB_l (hrk.symm.trans (rK_p (by omega) (by omega) qh264)) _))), Xh264, BD.ba k328⟩, ((am_f3.rf.tr hf9).tr (am_fr.t Fh264))⟩
      · skip
        have k329 := k23.kept Fh31 (by omega) (by omega)
        refine AQ.of (AS.if_ne_f eX6_readPolygon_49 ⟨by decide, by decide⟩ (by decide) (by decide)) ?_
        refine q_blk (lv2 := [(0, vr t), (1, vi (vl (he + 1)))]) (st2 := [vi 0]) kX6_readPolygon_52 rfl ?_
        exact q_rz rfl eX6_readPolygon_53 (by decide) ⟨0, rfl, Or.inr ⟨rfl, _, _, by unfold rG; rw [if_pos (by omega)]; exact ((rB_r qh20 _).trans (rB_l qh31 _)), Xh31, BD.ba k329⟩, (((am_f3.rf.tr (am_fr.t (am_fr.st e3 (by omega) (by omega)))).tr (am_fr.t Fh20)).tr (am_fr.t Fh31))⟩
    · skip
      have k330 := k5.kept Fh20 (by omega) (by omega)
      refine AQ.of (AS.if_ne_f eX6_readPolygon_35 ⟨by decide, by decide⟩ (by decide) (by decide)) ?_
      refine q_blk (lv2 := [(0, vr t)]) (st2 := [vi 0]) kX6_readPolygon_38 rfl ?_
      exact q_rz rfl eX6_readPolygon_39 (by decide) ⟨0, rfl, Or.inr ⟨rfl, _, _, by unfold rG; rw [if_pos (by omega)]; exact (rB_l qh20 _), Xh20, BD.ba k330⟩, ((am_f3.rf.tr (am_fr.t (am_fr.st e3 (by omega) (by omega)))).tr (am_fr.t Fh20))⟩
  · skip
    refine q_blk (lv2 := [(0, vr t)]) (st2 := [vi (-5), vr t]) kX6_readPolygon_12 rfl ?_
    refine AQ.callVi (av := [vi (-5)]) (st := []) (c_X6_fail (e := (-5)) ⟨_, c0, c1, c2, c3, c4, cj, c5, cL⟩ (by omega) (by omega)) lk_RX6_83 (by decide) rfl rfl ⟨_, _, _, c0⟩ ⟨_, rfl, rfl⟩ (Nat.le_of_ble_eq_true rfl) eX6_readPolygon_15 (fun z331 h333 e332 => ?_)
    obtain ⟨z3310, Xh333, Fh333⟩ := e332
    subst z3310
    obtain ⟨g334t, g3340, g3341, g3342, g3343, g3344, g334j, g3345, g334L⟩ := id Xh333
    have k335 := (Fh333.2 b (by omega)).trans b0
    have k336 := hB.kept Fh333 (by omega) (by omega)
    have k337 := (Fh333.2 (b + 1) (by omega)).trans b1
    have k338 := (Fh333.2 (b + 2) (by omega)).trans b2
    have k339 := (Fh333.2 (b + 3) (by omega)).trans b3
    have k340 := (Fh333.2 (b + 4) (by omega)).trans b4
    have k341 := (Fh333.2 (b + 5) (by omega)).trans b5
    exact q_rz rfl eX6_readPolygon_18 (by decide) ⟨0, rfl, Or.inr ⟨rfl, _, _, by unfold rG; rw [if_neg (by omega)], ⟨_, _, _, _, _, _, ⟨_, g3340, g3341, g3342, g3343, g3344, cj, g3345, g334L⟩, by omega, by omega⟩, BD.ba k336⟩, (am_f3.rf.tr (am_fr.t Fh333))⟩
