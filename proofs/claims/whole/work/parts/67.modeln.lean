/-! CornerClaimsModel: statements of its text. -/
/-- a statement is read -/
noncomputable def rX (kd st vl : Int → Int) (D : Int → Int) (L : Option GL) (he : Int) : (Int × Int) ⊕ ((Int → Int) × Option GL × Int) := if kd he = 4 then rB (rS kd st vl D he) (fun D' => .inr (D', L, he + 1 + 1 + 1 + 1 + 1)) else if kd he = 5 then rB (rG kd st vl D he) (fun r => .inr (r.1, L, r.2)) else if kd he = 6 then rB (rW kd st vl (if L.isSome then 1 else 0) he) (fun r => .inr (D, some r.1, r.2)) else .inl (-2, st he)
theorem rR_x {kd st vl : Int → Int} {f : Nat} {D : Int → Int} {L : Option GL} {he : Int} (hf : 0 < f) (hk : kd he ≠ 0) : rR kd st vl f D L he = rB (rX kd st vl D L he) fun r => rR kd st vl (f - 1) r.1 r.2.1 r.2.2 := by
  obtain ⟨m, rfl⟩ : ∃ m, f = m + 1 := ⟨f - 1, by omega⟩
  have e : rR kd st vl (m + 1) D L he = if kd he = 0 then .inr (D, L) else if kd he = 4 then rB (rS kd st vl D he) (fun D' => rR kd st vl m D' L (he + 1 + 1 + 1 + 1 + 1)) else if kd he = 5 then rB (rG kd st vl D he) (fun r => rR kd st vl m r.1 L r.2) else if kd he = 6 then rB (rW kd st vl (if L.isSome then 1 else 0) he) (fun r => rR kd st vl m D (some r.1) r.2) else .inl (-2, st he) := rfl
  rw [e, if_neg hk, Nat.add_sub_cancel]
  unfold rX
  by_cases c4 : kd he = 4
  · rw [if_pos c4, if_pos c4, rB_as]; rfl
  · rw [if_neg c4, if_neg c4]
    by_cases c5 : kd he = 5
    · rw [if_pos c5, if_pos c5, rB_as]; rfl
    · rw [if_neg c5, if_neg c5]
      by_cases c6 : kd he = 6
      · rw [if_pos c6, if_pos c6, rB_as]; rfl
      · rw [if_neg c6, if_neg c6]; rfl
section RX9
variable {kd st vl : Int → Int} {D D' : Int → Int} {L : Option GL} {he j : Int} {e : Int × Int} {L1 : GL}
theorem rX_s1 (h : kd he = 4) (h1 : rS0 kd st vl D he = .inl e) : rX kd st vl D L he = .inl e := (if_pos h).trans (by rw [rS0_e, rB_l h1]; rfl)
theorem rX_s2 (h : kd he = 4) (h1 : rS0 kd st vl D he = .inr D') (h2 : rT kd st 59 (he + 1 + 1 + 1 + 1) = .inl e) : rX kd st vl D L he = .inl e := (if_pos h).trans (by rw [rS0_e, rB_r h1, rB_l h2]; rfl)
theorem rX_s3 (h : kd he = 4) (h1 : rS0 kd st vl D he = .inr D') (h2 : rT kd st 59 (he + 1 + 1 + 1 + 1) = .inr ()) : rX kd st vl D L he = .inr (D', L, he + 1 + 1 + 1 + 1 + 1) := (if_pos h).trans (by rw [rS0_e, rB_r h1, rB_r h2]; rfl)
theorem rX_g1 (h : kd he = 5) (h1 : rG kd st vl D he = .inl e) : rX kd st vl D L he = .inl e := (if_neg (by omega)).trans ((if_pos h).trans (rB_l h1 _))
theorem rX_g2 (h : kd he = 5) (h1 : rG kd st vl D he = .inr (D', j)) : rX kd st vl D L he = .inr (D', L, j) := (if_neg (by omega)).trans ((if_pos h).trans (rB_r h1 _))
theorem rX_w0 (h : kd he = 6) (hL : L.isSome = true) : rX kd st vl D L he = .inl (-2, st he) := (if_neg (by omega)).trans ((if_neg (by omega)).trans ((if_pos h).trans (by rw [hL]; rfl)))
theorem rX_w1 (h : kd he = 6) (hL : L.isSome = false) (h1 : rU kd st vl 4 [] (he + 1) = .inl e) : rX kd st vl D L he = .inl e := (if_neg (by omega)).trans ((if_neg (by omega)).trans ((if_pos h).trans (by
  rw [hL]
  show rB (rB (rU kd st vl 4 [] (he + 1)) _) _ = _
  rw [rB_l h1]; rfl)))
theorem rX_w2 (h : kd he = 6) (hL : L.isSome = false) (h1 : rU kd st vl 4 [] (he + 1) = .inr (L1, j)) (h2 : rT kd st 59 j = .inl e) : rX kd st vl D L he = .inl e := (if_neg (by omega)).trans ((if_neg (by omega)).trans ((if_pos h).trans (by
  rw [hL]
  show rB (rB (rU kd st vl 4 [] (he + 1)) _) _ = _
  rw [rB_r h1]
  show rB (rB (rT kd st 59 j) _) _ = _
  rw [rB_l h2]; rfl)))
theorem rX_w3 (h : kd he = 6) (hL : L.isSome = false) (h1 : rU kd st vl 4 [] (he + 1) = .inr (L1, j)) (h2 : rT kd st 59 j = .inr ()) : rX kd st vl D L he = .inr (D, some L1, j + 1) := (if_neg (by omega)).trans ((if_neg (by omega)).trans ((if_pos h).trans (by
  rw [hL]
  show rB (rB (rU kd st vl 4 [] (he + 1)) _) _ = _
  rw [rB_r h1]
  show rB (rB (rT kd st 59 j) _) _ = _
  rw [rB_r h2]; rfl)))
theorem rX_u (h4 : kd he ≠ 4) (h5 : kd he ≠ 5) (h6 : kd he ≠ 6) : rX kd st vl D L he = .inl (-2, st he) := (if_neg h4).trans ((if_neg h5).trans (if_neg h6))
theorem rT_59 (h : kd he = 59) : rT kd st 59 he ≠ .inl e := by
  unfold rT
  rw [if_pos h]
  exact fun c => by cases c
end RX9
theorem CE.up {E F : Int → Int} {l : List Int} (h : CE E l) (u : gm_up E F) : CE F l := ⟨u.2.1.trans h.1, fun k v q => (u.2.2 _ (by omega)).trans (h.2 k v q)⟩
theorem CE.w4 {E : Int → Int} {l : List Int} (h : CE E l) (v : Int) : CE (am_uI E 4 v) l := ⟨(am_uI_ne _ _ (by omega)).trans h.1, fun k u q => (am_uI_ne _ _ (by omega)).trans (h.2 k u q)⟩
theorem gm_same.w4 {D E : Int → Int} (hD : VD D) (g : gm_same D E) (v : Int) : gm_same D (am_uI E 4 v) := by
  obtain ⟨g0, g1, g2, g3, g4, g5⟩ := g
  have v2 := hD.2.2.1
  have v3 := hD.2.2.2.1
  have b : ∀ i, i ≠ 4 → am_uI E 4 v i = E i := fun i h => am_uI_ne _ _ h
  refine ⟨(b _ (by omega)).trans g0, (b _ (by omega)).trans g1, (b _ (by omega)).trans g2, (b _ (by omega)).trans g3, fun k k0 k1 => ?_, fun p p0 p1 => ?_⟩
  · have q := g4 k k0 k1
    exact ⟨(b _ (by omega)).trans q.1, (b _ (by omega)).trans q.2.1, (b _ (by omega)).trans q.2.2⟩
  · have q := g5 p p0 p1
    have n := hD.n p0 p1
    refine ⟨(b _ (by omega)).trans q.1, (b _ (by omega)).trans q.2.1, (b _ (by omega)).trans q.2.2.1, fun k k0 k1 => ?_⟩
    have q2 := q.2.2.2 k k0 k1
    exact ⟨(b _ (by omega)).trans q2.1, (b _ (by omega)).trans q2.2⟩
/-- the reader after an error -/
def QB (h : AH) (n : Nat) (th bl tl eo ud e a : Int) : Prop := (e ≠ 0 ∧ am_r e) ∧ ∃ ps g0 g1 g2 g3 ns ne se E, MM h n th bl tl ps e a eo ud g0 g1 g2 g3 ns ne se E
/-- the reader before token i -/
def QG (tx st : Int → Int) (N : Int) (h : AH) (n : Nat) (th bl tl ea eo ud : Int) (D : Int → Int) (L : Option GL) (i : Int) : Prop := ∃ ps g0 g1 g2 g3 ns E, gm_same D E ∧ VD D ∧ E 4 = gm_hs L ∧ CE E (gm_ed (L.getD [])) ∧ (gm_ed (L.getD [])).length ≤ 1300 ∧ TP tx st N ps i ∧ MM h n th bl tl ps 0 ea eo ud g0 g1 g2 g3 ns 0 (gm_hs L) E

set_option maxHeartbeats 8000000 in
theorem c_X9_statement {w : am_w} {h : AH} {n : Nat} {th bl tl ea eo ud : Int} {bf tx kd st vl : Int → Int} {N : Int} (hb : h.1 (n + 1) = some (100, 800, bf, am_N)) (hl : 0 ≤ tl ∧ tl ≤ 800) (hx : BX bf tx tl) (hg : TG tx kd st vl tl N) (hN : N ≤ 800) {D : Int → Int} {L : Option GL} {i : Int} (hQ : QG tx st N h n th bl tl ea eo ud D L i)  : AE w m_X9_statement 21 [vr n] h (am_unit (fun h1 => ((∃ D' L' i', rX kd st vl D L i = .inr (D', L', i') ∧ i < i' ∧ QG tx st N h1 n th bl tl ea eo ud D' L' i') ∨ (∃ e a, rX kd st vl D L i = .inl (e, a) ∧ QB h1 n th bl tl eo ud e a)) ∧ am_f2 h h1 n)) := by
  refine AE.of wf_X9_statement (Nat.le_of_ble_eq_true rfl) (am_ok_v) ?_
  obtain ⟨ps, g0, g1, g2, g3, ns, E, hs, hD, h4, hC, hlen, hp, hm⟩ := hQ
  obtain ⟨se, hse⟩ : ∃ q, q = gm_hs L := ⟨_, rfl⟩
  rw [← hse] at hm h4
  have hse01 : se = 0 ∨ se = 1 := by rw [hse]; cases L; exact Or.inl rfl; exact Or.inr rfl
  obtain ⟨m0, m1⟩ := id hm
  obtain ⟨hi0, hi1⟩ := id hp.1
  have hp0 := hi0
  refine q_blk (lv2 := [(0, vr n)]) (st2 := [vr n]) kX9_statement_0 rfl ?_
  refine AQ.callVi (av := []) (st := []) (c_X9_next hm hb hl hx hg hp) lk_RX9_149 (by decide) rfl rfl hm.ob ⟨_, rfl, rfl⟩ (Nat.le_of_ble_eq_true rfl) eX9_statement_1 (fun z1 h3 e2 => ?_)
  obtain ⟨rfl, Mh3, Fh3⟩ := e2
  have Vh3 : am_f2 h h3 n := Fh3.f2
  have hbh3 : h3.1 (n + 1) = some (100, 800, bf, am_N) := (Vh3.2 (n + 1) (by omega) (by omega)).trans hb
  obtain ⟨m0h3, m1h3⟩ := id Mh3
  have Ph3 := hp.at hg hl.1
  refine q_blk (lv2 := [(0, vr n)]) (st2 := [vr n]) kX9_statement_4 rfl ?_
  refine q_gi eX9_statement_6 fl_RX9_133 (Or.inl rfl) m0h3 (z := (st i)) rfl ?_
  refine q_blk (lv2 := [(0, vr n), (1, vi (st i))]) (st2 := [vr n]) kX9_statement_9 rfl ?_
  refine AQ.of (AS.ldcS (i := 21) (by decide) ⟨rfl, rfl⟩ eX9_statement_11) ?_
  refine AQ.callVi (av := [vr (w.2 21)]) (st := []) (c_X9_takeWord_g Mh3 hbh3 hl hx hg Ph3 (w9 := 2) (by decide) (by decide)) lk_RX9_185 (by decide) rfl rfl Mh3.ob ⟨_, rfl, rfl⟩ (Nat.le_of_ble_eq_true rfl) eX9_statement_13 (fun z4 h6 e5 => ?_)
  rcases e5 with ⟨⟨rfl, Kh6, pxh6, Th6, Mh6⟩ | ⟨rfl, Kh6, Mh6⟩, Vh6⟩
  · skip
    have Yh6' : am_f2 h h6 n := Vh3.tr Vh6
    have hbh6 : h6.1 (n + 1) = some (100, 800, bf, am_N) := (Yh6'.2 (n + 1) (by omega) (by omega)).trans hb
    obtain ⟨m0h6, m1h6⟩ := id Mh6
    rw [show gm_wc 2 = 4 from rfl] at Kh6
    refine AQ.of (AS.if_eq_f eX9_statement_16 ⟨by decide, by decide⟩ (by decide) (by decide)) ?_
    refine q_blk (lv2 := [(0, vr n), (1, vi (st i))]) (st2 := [vi (st i), vr n]) kX9_statement_19 rfl ?_
    refine AQ.callVv (av := [vi (st i)]) (st := []) (c_X9_readStone Mh6 hbh6 hl hx hg (i := i) hp0 Th6 hD hs) lk_RX9_228 (by decide) rfl rfl Mh6.ob ⟨_, rfl, rfl⟩ (Nat.le_of_ble_eq_true rfl) eX9_statement_21 (fun h9 e8 => ?_)
    rcases e8 with ⟨⟨Dh9, Eh9, pxh9, nh9, Kh9, Sh9, Wh9, Uh9, Th9, Mh9⟩ | ⟨eh9, ah9, pxh9, nh9, Eh9, Kh9, Zh9, Mh9⟩, Vh9⟩
    · skip
      have Yh9' : am_f2 h h9 n := Yh6'.tr Vh9
      have hbh9 : h9.1 (n + 1) = some (100, 800, bf, am_N) := (Yh9'.2 (n + 1) (by omega) (by omega)).trans hb
      obtain ⟨m0h9, m1h9⟩ := id Mh9
      refine q_goto (tgt := 80) eX9_statement_24 (by decide) ?_
      refine q_blk (lv2 := [(0, vr n), (1, vi (st i))]) (st2 := [vi 59, vr n]) kX9_statement_80 rfl ?_
      refine AQ.callVv (av := [vi 59]) (st := []) (c_X9_expect_g Mh9 hbh9 hl hx hg Th9 (c := 59) (by decide)) lk_RX9_179 (by decide) rfl rfl Mh9.ob ⟨_, rfl, rfl⟩ (Nat.le_of_ble_eq_true rfl) eX9_statement_83 (fun h12 e11 => ?_)
      rcases e11 with ⟨⟨Kh12, pxh12, Th12, Mh12⟩ | ⟨eh12, ah12, Kh12, Eh12, Mh12⟩, Vh12⟩
      · skip
        have Yh12' : am_f2 h h12 n := Yh9'.tr Vh12
        have hbh12 : h12.1 (n + 1) = some (100, 800, bf, am_N) := (Yh12'.2 (n + 1) (by omega) (by omega)).trans hb
        obtain ⟨m0h12, m1h12⟩ := id Mh12
        exact q_rv rfl eX9_statement_86 ⟨rfl, Or.inl ⟨_, L, _, rX_s3 Kh6 Kh9 Kh12, by omega, _, _, _, _, _, _, _, Sh9, Wh9, (Uh9.1.trans h4).trans hse, hC.up Uh9, hlen, Th12, by rw [← hse]; exact Mh12⟩, Yh12'⟩
      · skip
        have Yh12' : am_f2 h h12 n := Yh9'.tr Vh12
        have hbh12 : h12.1 (n + 1) = some (100, 800, bf, am_N) := (Yh12'.2 (n + 1) (by omega) (by omega)).trans hb
        obtain ⟨m0h12, m1h12⟩ := id Mh12
        have Zh12 : eh12 ≠ 0 ∧ am_r eh12 := by rw [Eh12]; exact ⟨by decide, by decide, by decide⟩
        exact q_rv rfl eX9_statement_86 ⟨rfl, Or.inr ⟨_, _, rX_s2 Kh6 Kh9 Kh12, Zh12, _, _, _, _, _, _, _, _, _, Mh12⟩, Yh12'⟩
    · skip
      have Yh9' : am_f2 h h9 n := Yh6'.tr Vh9
      have hbh9 : h9.1 (n + 1) = some (100, 800, bf, am_N) := (Yh9'.2 (n + 1) (by omega) (by omega)).trans hb
      obtain ⟨m0h9, m1h9⟩ := id Mh9
      refine q_goto (tgt := 80) eX9_statement_24 (by decide) ?_
      refine q_blk (lv2 := [(0, vr n), (1, vi (st i))]) (st2 := [vi 59, vr n]) kX9_statement_80 rfl ?_
      refine AQ.callVv (av := [vi 59]) (st := []) (c_X9_expect_b Mh9 Zh9 (c := 59)) lk_RX9_179 (by decide) rfl rfl Mh9.ob ⟨_, rfl, rfl⟩ (Nat.le_of_ble_eq_true rfl) eX9_statement_83 (fun h15 e14 => ?_)
      subst e14
      exact q_rv rfl eX9_statement_86 ⟨rfl, Or.inr ⟨_, _, rX_s1 Kh6 Kh9, Zh9, _, _, _, _, _, _, _, _, _, Mh9⟩, Yh9'⟩
  · skip
    have Yh6' : am_f2 h h6 n := Vh3.tr Vh6
    have hbh6 : h6.1 (n + 1) = some (100, 800, bf, am_N) := (Yh6'.2 (n + 1) (by omega) (by omega)).trans hb
    obtain ⟨m0h6, m1h6⟩ := id Mh6
    have Ph6 := Ph3.at hg hl.1
    rw [show gm_wc 2 = 4 from rfl] at Kh6
    refine AQ.of (AS.if_eq_t (tgt := 27) eX9_statement_16 (by decide) ⟨by decide, by decide⟩ (by decide)) ?_
    refine q_blk (lv2 := [(0, vr n), (1, vi (st i))]) (st2 := [vr n]) kX9_statement_27 rfl ?_
    refine AQ.of (AS.ldcS (i := 22) (by decide) ⟨rfl, rfl⟩ eX9_statement_28) ?_
    refine AQ.callVi (av := [vr (w.2 22)]) (st := []) (c_X9_takeWord_g Mh6 hbh6 hl hx hg Ph6 (w9 := 3) (by decide) (by decide)) lk_RX9_185 (by decide) rfl rfl Mh6.ob ⟨_, rfl, rfl⟩ (Nat.le_of_ble_eq_true rfl) eX9_statement_30 (fun z16 h18 e17 => ?_)
    rcases e17 with ⟨⟨rfl, Kh18, pxh18, Th18, Mh18⟩ | ⟨rfl, Kh18, Mh18⟩, Vh18⟩
    · skip
      have Yh18' : am_f2 h h18 n := Yh6'.tr Vh18
      have hbh18 : h18.1 (n + 1) = some (100, 800, bf, am_N) := (Yh18'.2 (n + 1) (by omega) (by omega)).trans hb
      obtain ⟨m0h18, m1h18⟩ := id Mh18
      rw [show gm_wc 3 = 5 from rfl] at Kh18
      refine AQ.of (AS.if_eq_f eX9_statement_33 ⟨by decide, by decide⟩ (by decide) (by decide)) ?_
      refine q_blk (lv2 := [(0, vr n), (1, vi (st i))]) (st2 := [vi (st i), vr n]) kX9_statement_36 rfl ?_
      refine AQ.callVv (av := [vi (st i)]) (st := []) (c_X9_readPolygon Mh18 hbh18 hl hx hg (i := i) hp0 Th18 hD hs hN) lk_RX9_233 (by decide) rfl rfl Mh18.ob ⟨_, rfl, rfl⟩ (Nat.le_of_ble_eq_true rfl) eX9_statement_38 (fun h21 e20 => ?_)
      rcases e20 with ⟨⟨Dh21, Eh21, jh21, pxh21, nh21, gah21, gbh21, gch21, gdh21, Kh21, k59h21, ijh21, Sh21, Wh21, Uh21, Th21, Mh21⟩ | ⟨eh21, ah21, pxh21, nh21, gah21, gbh21, gch21, gdh21, Eh21, Kh21, Zh21, Mh21⟩, Vh21⟩
      · skip
        have Yh21' : am_f2 h h21 n := Yh18'.tr Vh21
        have hbh21 : h21.1 (n + 1) = some (100, 800, bf, am_N) := (Yh21'.2 (n + 1) (by omega) (by omega)).trans hb
        obtain ⟨m0h21, m1h21⟩ := id Mh21
        refine q_goto (tgt := 80) eX9_statement_41 (by decide) ?_
        refine q_blk (lv2 := [(0, vr n), (1, vi (st i))]) (st2 := [vi 59, vr n]) kX9_statement_80 rfl ?_
        refine AQ.callVv (av := [vi 59]) (st := []) (c_X9_expect_g Mh21 hbh21 hl hx hg Th21 (c := 59) (by decide)) lk_RX9_179 (by decide) rfl rfl Mh21.ob ⟨_, rfl, rfl⟩ (Nat.le_of_ble_eq_true rfl) eX9_statement_83 (fun h24 e23 => ?_)
        rcases e23 with ⟨⟨Kh24, pxh24, Th24, Mh24⟩ | ⟨eh24, ah24, Kh24, Eh24, Mh24⟩, Vh24⟩
        · skip
          have Yh24' : am_f2 h h24 n := Yh21'.tr Vh24
          have hbh24 : h24.1 (n + 1) = some (100, 800, bf, am_N) := (Yh24'.2 (n + 1) (by omega) (by omega)).trans hb
          obtain ⟨m0h24, m1h24⟩ := id Mh24
          exact q_rv rfl eX9_statement_86 ⟨rfl, Or.inl ⟨_, L, _, rX_g2 Kh18 Kh21, by omega, _, _, _, _, _, _, _, Sh21, Wh21, (Uh21.1.trans h4).trans hse, hC.up Uh21, hlen, Th24, by rw [← hse]; exact Mh24⟩, Yh24'⟩
        · skip
          exact absurd Kh24 (rT_59 k59h21)
      · skip
        have Yh21' : am_f2 h h21 n := Yh18'.tr Vh21
        have hbh21 : h21.1 (n + 1) = some (100, 800, bf, am_N) := (Yh21'.2 (n + 1) (by omega) (by omega)).trans hb
        obtain ⟨m0h21, m1h21⟩ := id Mh21
        refine q_goto (tgt := 80) eX9_statement_41 (by decide) ?_
        refine q_blk (lv2 := [(0, vr n), (1, vi (st i))]) (st2 := [vi 59, vr n]) kX9_statement_80 rfl ?_
        refine AQ.callVv (av := [vi 59]) (st := []) (c_X9_expect_b Mh21 Zh21 (c := 59)) lk_RX9_179 (by decide) rfl rfl Mh21.ob ⟨_, rfl, rfl⟩ (Nat.le_of_ble_eq_true rfl) eX9_statement_83 (fun h27 e26 => ?_)
        subst e26
        exact q_rv rfl eX9_statement_86 ⟨rfl, Or.inr ⟨_, _, rX_g1 Kh18 Kh21, Zh21, _, _, _, _, _, _, _, _, _, Mh21⟩, Yh21'⟩
    · skip
      have Yh18' : am_f2 h h18 n := Yh6'.tr Vh18
      have hbh18 : h18.1 (n + 1) = some (100, 800, bf, am_N) := (Yh18'.2 (n + 1) (by omega) (by omega)).trans hb
      obtain ⟨m0h18, m1h18⟩ := id Mh18
      have Ph18 := Ph6.at hg hl.1
      rw [show gm_wc 3 = 5 from rfl] at Kh18
      refine AQ.of (AS.if_eq_t (tgt := 44) eX9_statement_33 (by decide) ⟨by decide, by decide⟩ (by decide)) ?_
      refine q_blk (lv2 := [(0, vr n), (1, vi (st i))]) (st2 := [vr n]) kX9_statement_44 rfl ?_
      refine AQ.of (AS.ldcS (i := 23) (by decide) ⟨rfl, rfl⟩ eX9_statement_45) ?_
      refine AQ.callVi (av := [vr (w.2 23)]) (st := []) (c_X9_takeWord_g Mh18 hbh18 hl hx hg Ph18 (w9 := 4) (by decide) (by decide)) lk_RX9_185 (by decide) rfl rfl Mh18.ob ⟨_, rfl, rfl⟩ (Nat.le_of_ble_eq_true rfl) eX9_statement_47 (fun z28 h30 e29 => ?_)
      rcases e29 with ⟨⟨rfl, Kh30, pxh30, Th30, Mh30⟩ | ⟨rfl, Kh30, Mh30⟩, Vh30⟩
      · skip
        have Yh30' : am_f2 h h30 n := Yh18'.tr Vh30
        have hbh30 : h30.1 (n + 1) = some (100, 800, bf, am_N) := (Yh30'.2 (n + 1) (by omega) (by omega)).trans hb
        obtain ⟨m0h30, m1h30⟩ := id Mh30
        rw [show gm_wc 4 = 6 from rfl] at Kh30
        refine AQ.of (AS.if_eq_f eX9_statement_50 ⟨by decide, by decide⟩ (by decide) (by decide)) ?_
        refine q_blk (lv2 := [(0, vr n), (1, vi (st i))]) (st2 := [vi (st i), vi 0, vr n]) kX9_statement_53 rfl ?_
        refine AQ.callVv (av := [vi 0, vi (st i)]) (st := []) (c_X9_once_g Mh30 hse01 (a := st i)) lk_RX9_238 (by decide) rfl rfl Mh30.ob ⟨_, rfl, rfl⟩ (Nat.le_of_ble_eq_true rfl) eX9_statement_56 (fun h33 e32 => ?_)
        rcases e32 with ⟨⟨Oh33, Mh33⟩ | ⟨Oh33, Mh33⟩, Vh33⟩
        · skip
          have Yh33' : am_f2 h h33 n := Yh30'.tr Vh33
          have hbh33 : h33.1 (n + 1) = some (100, 800, bf, am_N) := (Yh33'.2 (n + 1) (by omega) (by omega)).trans hb
          obtain ⟨m0h33, m1h33⟩ := id Mh33
          refine q_blk (lv2 := [(0, vr n), (1, vi (st i))]) (st2 := [vr n]) kX9_statement_59 rfl ?_
          refine q_gr eX9_statement_60 fl_RX9_17 (Or.inr ⟨_, rfl⟩) m0h33 rfl ?_
          refine q_blk (lv2 := [(0, vr n), (1, vi (st i))]) (st2 := [vi 1, vi 4, vr (n + 2)]) kX9_statement_63 rfl ?_
          refine q_is eX9_statement_65 m1h33 (by omega) (by omega) (fun h34 e35 => ?_)
          have k36 := (am_ne e35 n (by omega)).trans m0h33
          have k37 := am_at e35
          have Mw38 : MM h34 n th bl tl pxh30 0 ea eo ud g0 g1 g2 g3 ns 0 1 (am_uI E 4 1) := ⟨k36, k37⟩
          have Vw38 : am_f2 _ h34 n := (am_fr.st e35 (by omega) (by omega) : am_fr _ _ (n + 2) (n + 3)).f2d
          have Yh34' : am_f2 h h34 n := Yh33'.tr Vw38
          have hbh34 : h34.1 (n + 1) = some (100, 800, bf, am_N) := (Yh34'.2 (n + 1) (by omega) (by omega)).trans hb
          obtain ⟨m0h34, m1h34⟩ := id Mw38
          have hLn : L = none := by
            cases L with
            | none => rfl
            | some l => exact absurd Oh33 (by rw [hse, show gm_hs (some l) = 1 from rfl]; decide)
          have HC4 : CE (am_uI E 4 1) (gm_ed []) := by have q := hC; rw [hLn] at q; exact q.w4 1
          refine q_blk (lv2 := [(0, vr n), (1, vi (st i))]) (st2 := [vr n]) kX9_statement_66 rfl ?_
          refine AQ.callVv (av := []) (st := []) (c_sum4 hl hx hg hN Mw38 hbh34 Th30 (L := []) HC4 (by show 2 * (((gm_ed []).length : Nat) : Int) ≤ _; rw [show (gm_ed []).length = 0 from rfl]; omega)) lk_RX9_176 (by decide) rfl rfl Mw38.ob ⟨_, rfl, rfl⟩ (Nat.le_of_ble_eq_true rfl) eX9_statement_67 (fun h41 e40 => ?_)
          rcases e40 with ⟨⟨Lh41, ih41, pxh41, nh41, Eh41, Kh41, ⟨jah41, jbh41⟩, Nh41, Th41, Ch41, Bh41, Mh41⟩ | ⟨eh41, ah41, pxh41, nh41, neh41, Eh41, Kh41, Zh41, Mh41⟩, Vh41⟩
          · skip
            have Yh41' : am_f2 h h41 n := Yh34'.tr Vh41
            have hbh41 : h41.1 (n + 1) = some (100, 800, bf, am_N) := (Yh41'.2 (n + 1) (by omega) (by omega)).trans hb
            obtain ⟨m0h41, m1h41⟩ := id Mh41
            refine q_goto (tgt := 80) eX9_statement_70 (by decide) ?_
            refine q_blk (lv2 := [(0, vr n), (1, vi (st i))]) (st2 := [vi 59, vr n]) kX9_statement_80 rfl ?_
            refine AQ.callVv (av := [vi 59]) (st := []) (c_X9_expect_g Mh41 hbh41 hl hx hg Th41 (c := 59) (by decide)) lk_RX9_179 (by decide) rfl rfl Mh41.ob ⟨_, rfl, rfl⟩ (Nat.le_of_ble_eq_true rfl) eX9_statement_83 (fun h44 e43 => ?_)
            rcases e43 with ⟨⟨Kh44, pxh44, Th44, Mh44⟩ | ⟨eh44, ah44, Kh44, Eh44, Mh44⟩, Vh44⟩
            · skip
              have Yh44' : am_f2 h h44 n := Yh41'.tr Vh44
              have hbh44 : h44.1 (n + 1) = some (100, 800, bf, am_N) := (Yh44'.2 (n + 1) (by omega) (by omega)).trans hb
              obtain ⟨m0h44, m1h44⟩ := id Mh44
              exact q_rv rfl eX9_statement_86 ⟨rfl, Or.inl ⟨D, some Lh41, _, rX_w3 Kh30 (by rw [hLn]; rfl) Kh41 Kh44, by omega, _, _, _, _, _, _, _, gm_bd.same hD (hs.w4 hD 1) Bh41, hD, (Bh41 4 (by decide) (by decide)).trans (am_uI_at _ _ _), Ch41, by show (gm_ed Lh41).length ≤ 1300; have q := Nh41; rw [show (gm_ed []).length = 0 from rfl] at q; have := Th44.1.2; omega, Th44, Mh44⟩, Yh44'⟩
            · skip
              have Yh44' : am_f2 h h44 n := Yh41'.tr Vh44
              have hbh44 : h44.1 (n + 1) = some (100, 800, bf, am_N) := (Yh44'.2 (n + 1) (by omega) (by omega)).trans hb
              obtain ⟨m0h44, m1h44⟩ := id Mh44
              have Zh44 : eh44 ≠ 0 ∧ am_r eh44 := by rw [Eh44]; exact ⟨by decide, by decide, by decide⟩
              exact q_rv rfl eX9_statement_86 ⟨rfl, Or.inr ⟨_, _, rX_w2 Kh30 (by rw [hLn]; rfl) Kh41 Kh44, Zh44, _, _, _, _, _, _, _, _, _, Mh44⟩, Yh44'⟩
          · skip
            have Yh41' : am_f2 h h41 n := Yh34'.tr Vh41
            have hbh41 : h41.1 (n + 1) = some (100, 800, bf, am_N) := (Yh41'.2 (n + 1) (by omega) (by omega)).trans hb
            obtain ⟨m0h41, m1h41⟩ := id Mh41
            refine q_goto (tgt := 80) eX9_statement_70 (by decide) ?_
            refine q_blk (lv2 := [(0, vr n), (1, vi (st i))]) (st2 := [vi 59, vr n]) kX9_statement_80 rfl ?_
            refine AQ.callVv (av := [vi 59]) (st := []) (c_X9_expect_b Mh41 Zh41 (c := 59)) lk_RX9_179 (by decide) rfl rfl Mh41.ob ⟨_, rfl, rfl⟩ (Nat.le_of_ble_eq_true rfl) eX9_statement_83 (fun h47 e46 => ?_)
            subst e46
            exact q_rv rfl eX9_statement_86 ⟨rfl, Or.inr ⟨_, _, rX_w1 Kh30 (by rw [hLn]; rfl) Kh41, Zh41, _, _, _, _, _, _, _, _, _, Mh41⟩, Yh41'⟩
        · skip
          have Zh33 : ((-2) : Int) ≠ 0 ∧ am_r (-2) := ⟨by decide, by decide, by decide⟩
          have Yh33' : am_f2 h h33 n := Yh30'.tr Vh33
          have hbh33 : h33.1 (n + 1) = some (100, 800, bf, am_N) := (Yh33'.2 (n + 1) (by omega) (by omega)).trans hb
          obtain ⟨m0h33, m1h33⟩ := id Mh33
          refine q_blk (lv2 := [(0, vr n), (1, vi (st i))]) (st2 := [vr n]) kX9_statement_59 rfl ?_
          refine q_gr eX9_statement_60 fl_RX9_17 (Or.inr ⟨_, rfl⟩) m0h33 rfl ?_
          refine q_blk (lv2 := [(0, vr n), (1, vi (st i))]) (st2 := [vi 1, vi 4, vr (n + 2)]) kX9_statement_63 rfl ?_
          refine q_is eX9_statement_65 m1h33 (by omega) (by omega) (fun h48 e49 => ?_)
          have k50 := (am_ne e49 n (by omega)).trans m0h33
          have k51 := am_at e49
          have Mw52 : MM h48 n th bl tl pxh30 (-2) (st i) eo ud g0 g1 g2 g3 ns 0 1 (am_uI E 4 1) := ⟨k50, k51⟩
          have Vw52 : am_f2 _ h48 n := (am_fr.st e49 (by omega) (by omega) : am_fr _ _ (n + 2) (n + 3)).f2d
          have Yh48' : am_f2 h h48 n := Yh33'.tr Vw52
          have hbh48 : h48.1 (n + 1) = some (100, 800, bf, am_N) := (Yh48'.2 (n + 1) (by omega) (by omega)).trans hb
          obtain ⟨m0h48, m1h48⟩ := id Mw52
          refine q_blk (lv2 := [(0, vr n), (1, vi (st i))]) (st2 := [vr n]) kX9_statement_66 rfl ?_
          refine AQ.callVv (av := []) (st := []) (c_X9_sum_b Mw52 Zh33) lk_RX9_176 (by decide) rfl rfl Mw52.ob ⟨_, rfl, rfl⟩ (Nat.le_of_ble_eq_true rfl) eX9_statement_67 (fun h55 e54 => ?_)
          subst e54
          refine q_goto (tgt := 80) eX9_statement_70 (by decide) ?_
          refine q_blk (lv2 := [(0, vr n), (1, vi (st i))]) (st2 := [vi 59, vr n]) kX9_statement_80 rfl ?_
          refine AQ.callVv (av := [vi 59]) (st := []) (c_X9_expect_b Mw52 Zh33 (c := 59)) lk_RX9_179 (by decide) rfl rfl Mw52.ob ⟨_, rfl, rfl⟩ (Nat.le_of_ble_eq_true rfl) eX9_statement_83 (fun h58 e57 => ?_)
          subst e57
          exact q_rv rfl eX9_statement_86 ⟨rfl, Or.inr ⟨_, _, rX_w0 Kh30 (by cases L with | none => exact absurd Oh33 (by rw [hse]; decide) | some l => rfl), Zh33, _, _, _, _, _, _, _, _, _, Mw52⟩, Yh48'⟩
      · skip
        have Yh30' : am_f2 h h30 n := Yh18'.tr Vh30
        have hbh30 : h30.1 (n + 1) = some (100, 800, bf, am_N) := (Yh30'.2 (n + 1) (by omega) (by omega)).trans hb
        obtain ⟨m0h30, m1h30⟩ := id Mh30
        have Ph30 := Ph18.at hg hl.1
        rw [show gm_wc 4 = 6 from rfl] at Kh30
        refine AQ.of (AS.if_eq_t (tgt := 73) eX9_statement_50 (by decide) ⟨by decide, by decide⟩ (by decide)) ?_
        refine q_blk (lv2 := [(0, vr n), (1, vi (st i))]) (st2 := [vi (st i), vi (-2), vr n]) kX9_statement_73 rfl ?_
        refine AQ.callVv (av := [vi (-2), vi (st i)]) (st := []) (c_X9_report_g Mh30 (k := (-2)) (a := (st i))) lk_RX9_162 (by decide) rfl rfl Mh30.ob ⟨_, rfl, rfl⟩ (Nat.le_of_ble_eq_true rfl) eX9_statement_77 (fun h61 e60 => ?_)
        obtain ⟨Mh61, Fh61⟩ := e60
        have Vh61 : am_f2 h h61 n := Yh30'.tr (Fh61.f2)
        have hbh61 : h61.1 (n + 1) = some (100, 800, bf, am_N) := (Vh61.2 (n + 1) (by omega) (by omega)).trans hb
        obtain ⟨m0h61, m1h61⟩ := id Mh61
        have Yh61 : ((-2) : Int) ≠ 0 ∧ am_r (-2) := ⟨by decide, by decide, by decide⟩
        refine q_blk (lv2 := [(0, vr n), (1, vi (st i))]) (st2 := [vi 59, vr n]) kX9_statement_80 rfl ?_
        refine AQ.callVv (av := [vi 59]) (st := []) (c_X9_expect_b Mh61 Yh61 (c := 59)) lk_RX9_179 (by decide) rfl rfl Mh61.ob ⟨_, rfl, rfl⟩ (Nat.le_of_ble_eq_true rfl) eX9_statement_83 (fun h64 e63 => ?_)
        subst e63
        exact q_rv rfl eX9_statement_86 ⟨rfl, Or.inr ⟨_, _, rX_u Kh6 Kh18 Kh30, Yh61, _, _, _, _, _, _, _, _, _, Mh61⟩, Vh61⟩
