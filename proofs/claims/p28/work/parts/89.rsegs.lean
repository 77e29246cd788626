/-! The law's random field: its segments. -/

set_option maxRecDepth 4000 in
set_option maxHeartbeats 4000000 in
theorem rg_R0 {w : am_w} {d : Nat} {Q : RV → AH → Prop} {h : AH} {o bu r bs : Nat} {D0 cm : Int → Int} {sc : Nat} {L : GL} {le : Int} {Hs : List GE} {Z : List Int} (hd : 80 ≤ d) (hT : TXS w h o bu D0 cm sc L le Hs Z) (hR : RND h r) (hr : o + 256 ≤ r ∧ r < h.2.1 ∧ r ≠ bu) (hW : TXW w h bs) (hb : bs ≤ o) (kk : ∀ {f sa pa : Nat} {gs gp : Int → Option Nat} (h1 : AH), RFS w o bu r f sa pa bs gs gp none h1 (gm_emp 2 2) D0 cm sc L le Hs Z → (h1.2.1 ≤ h.2.1 + 3 ∧ h1.2.2 ≤ h.2.2 + 5) → AQ w m_L_randomField d 7 [(0, vr o), (1, vr bu), (2, vr r)] [vr f] h1 Q)  : AQ w m_L_randomField d 0 [(0, vr o), (1, vr bu), (2, vr r)] [] h Q := by
  have tb := hT.top
  have rr := hr.2.1
  obtain ⟨t1, e3t⟩ : ∃ q : Nat, h.2.1 = q := ⟨_, rfl⟩
  refine q_no (ci := 8) e3t eL_randomField_0 rfl (am_gw 461 (by decide +kernel) (by decide +kernel)) (am_gw 462 (by decide +kernel) (by decide +kernel)) in_RX9 (fun h2 e3c e3f e3z => ?_)
  have e3u : h2.2.1 = t1 + 1 := by rw [e3z]
  have e3v : h2.2.2 = h.2.2 + 5 := by rw [e3z]
  have F4 : ∀ q, q < h.2.1 → ¬ NO q → h2.1 q = h.1 q := fun q q0 q1 => (e3f q (by omega)).trans ((fun _ _ _ => rfl) q q0 q1)
  refine q_blk (lv2 := [(0, vr o), (1, vr bu), (2, vr r)]) (st2 := [vr t1, vr t1]) kL_randomField_3 rfl ?_
  refine AQ.callIv (av := []) (st := [vr t1]) (c_X9_init e3c (by omega)) lk_RL_131 (by omega) rfl rfl (Nat.le_of_ble_eq_true rfl) eL_randomField_4 (fun h7 e6 => ?_)
  obtain ⟨⟨t8, t8x, t8f, t8g, ⟨t8a, t8b⟩, ⟨t8c, t8d⟩, t8p, t8q, t8r⟩, g9f, ⟨g9a, g9b⟩, g9c, g9d⟩ := e6
  have F10 : ∀ q, q < h.2.1 → ¬ NO q → h7.1 q = h.1 q := fun q q0 q1 => (g9f q (by omega) (by show ¬ _ = _; omega)).trans (F4 q q0 q1)
  have K9 : KF h h7 NO 3 5 := ⟨F10, ⟨by omega, by omega⟩, by omega, by omega⟩
  have F9 : FLD h7 (LB o bu r r h7) t1 t8 t8x am_N am_N none (gm_emp 2 2) := FLD.new t8p t8q t8r (LB.fr tb rr ⟨by omega, by omega⟩) (LB.fr tb rr ⟨by omega, by omega⟩) (LB.fr tb rr ⟨by omega, by omega⟩)
  exact kk h7 ⟨hT.kf K9 (fun q z => z.elim), ⟨hR.mv (K9.1 r rr id), hr.1, by omega, hr.2.2⟩, ⟨F9, FX.emp ⟨by omega, by omega⟩ ⟨by omega, by omega⟩⟩, hW.mv (by omega) (fun q hq => K9.1 q (by omega) id), hb⟩ ⟨by omega, by omega⟩

set_option maxRecDepth 4000 in
set_option maxHeartbeats 4000000 in
theorem rg_R1 {w : am_w} {d : Nat} {Q : RV → AH → Prop} {h : AH} {o bu r bs : Nat} {D0 cm : Int → Int} {sc : Nat} {L : GL} {le : Int} {Hs : List GE} {Z : List Int} {f sa pa : Nat} {gs gp : Int → Option Nat} {a b : Int} (ha : 2 ≤ a ∧ a ≤ 30) (hb : 2 ≤ b ∧ b ≤ 30) (hd : 80 ≤ d) (hI : RFS w o bu r f sa pa bs gs gp none h (gm_emp a b) D0 cm sc L le Hs Z) (kk : ∀ (v : Int) (h1 : AH), (2 ≤ v ∧ v ≤ 30) → RFS w o bu r f sa pa bs gs gp none h1 (gm_emp v b) D0 cm sc L le Hs Z → (h1.2.1 ≤ h.2.1 + 0 ∧ h1.2.2 ≤ h.2.2 + 0) → AQ w m_L_randomField d 33 [(0, vr o), (1, vr bu), (2, vr r), (3, vr f)] [] h1 Q)  : AQ w m_L_randomField d 7 [(0, vr o), (1, vr bu), (2, vr r)] [vr f] h Q := by
  have tb := hI.1.top
  have rr := hI.2.1.2.2.1
  have rb := hI.2.1.2.1
  refine q_blk (lv2 := [(0, vr o), (1, vr bu), (2, vr r), (3, vr f)]) (st2 := [vi 3, vr r, vr r, vi 2, vr f]) kL_randomField_7 rfl ?_
  refine AQ.callVi (av := [vi 3]) (st := [vr r, vi 2, vr f]) (c_X11_below hI.2.1.1 hI.2.1.2.2.1 (b := 3) (by omega) (by omega)) lk_RL_132 (by omega) rfl rfl hI.2.1.1.ob ⟨_, rfl, rfl⟩ (Nat.le_of_ble_eq_true rfl) eL_randomField_13 (fun z1 h3 e2 => ?_)
  obtain ⟨⟨z1a, z1b⟩, g4r, g4k⟩ := e2
  have g4i := hI.kr g4k g4r
  obtain ⟨-, ⟨g4a, g4b⟩, g4y, g4z⟩ := id g4k
  have jn26 : ∀ (u : Int), (u = 29 ∨ u = 9) → AQ w m_L_randomField d 26 [(0, vr o), (1, vr bu), (2, vr r), (3, vr f)] [vi u, vr r, vi 2, vr f] h3 (Q) := by
    intro u hj
    refine AQ.callVi (av := [vi u]) (st := [vi 2, vr f]) (c_X11_below g4i.2.1.1 g4i.2.1.2.2.1 (b := u) (by omega) (by omega)) lk_RL_132 (by omega) rfl rfl g4i.2.1.1.ob ⟨_, rfl, rfl⟩ (Nat.le_of_ble_eq_true rfl) eL_randomField_26 (fun z5 h7 e6 => ?_)
    obtain ⟨⟨z5a, z5b⟩, g8r, g8k⟩ := e6
    have g8i := g4i.kr g8k g8r
    obtain ⟨-, ⟨g8a, g8b⟩, g8y, g8z⟩ := id g8k
    refine q_blk (lv2 := [(0, vr o), (1, vr bu), (2, vr r), (3, vr f)]) (st2 := [vi (2 + z5), vr f]) kL_randomField_29 rfl ?_
    obtain ⟨⟨bf9, bs9, bp9⟩, C09, ⟨fz19, C19⟩, ⟨fz29, C29⟩, hst, hsh, hij⟩ := id g8i.2.2.1.1
    have bf9x0 := bf9.1.1
    have bf9x1 := bf9.1.2
    have bf9x2 := bf9.2.1
    have bf9x3 := bf9.2.2.1
    have bs9x0 := bs9.1.1
    have bs9x1 := bs9.1.2
    have bs9x2 := bs9.2.1
    have bs9x3 := bs9.2.2.1
    have bp9x0 := bp9.1.1
    have bp9x1 := bp9.1.2
    have bp9x2 := bp9.2.1
    have bp9x3 := bp9.2.2.1
    refine q_pi eL_randomField_30 fl_RL_137 (fun q hq => by cases hq; exact Or.inl rfl) (Or.inl rfl) C09 (Nat.le_of_ble_eq_true rfl) (l2 := [(2 + z5), b, 0, 0, 0]) rfl (fun h10 e11 => ?_)
    have e11K := KF.one e11
    have e11F : FLD h10 (LB o bu r r h7) f sa pa gs gp none (gm_emp (2 + z5) b) := g8i.2.2.1.1.cf (fun q _ n => am_ne e11 q n) (am_at e11) (fun i hi => by unfold gm_emp; repeat rw [if_neg (by omega)])
    have e11I := g8i.fl e11K (fun q z => Or.inl (Or.inl z)) (g8i.2.1.1.mv (e11K.1 r g8i.2.1.2.2.1 (fun z => g8i.2.2.1.1.1.1.2.2.1 z.symm))) (e11F.loc (fun _ _ => rfl) (fun q b => Or.inl b)) (FX.emp ⟨by omega, by omega⟩ ⟨by omega, by omega⟩)
    obtain ⟨-, ⟨e11a, e11b⟩, e11y, e11z⟩ := id e11K
    exact kk _ h10 ⟨by omega, by omega⟩ e11I ⟨by omega, by omega⟩
  refine AQ.if_ne (tgt := 24) eL_randomField_16 (by decide) (by first | assumption | exact ⟨by omega, by omega⟩ | exact ⟨by decide, by decide⟩) (fun br12 => ?_) (fun br12 => ?_)
  · skip
    refine q_blk (lv2 := [(0, vr o), (1, vr bu), (2, vr r), (3, vr f)]) (st2 := [vi 9, vr r, vi 2, vr f]) kL_randomField_24 rfl ?_
    exact jn26 9 (by omega)
  · skip
    refine q_blk (lv2 := [(0, vr o), (1, vr bu), (2, vr r), (3, vr f)]) (st2 := [vi 29, vr r, vi 2, vr f]) kL_randomField_19 rfl ?_
    refine q_goto (tgt := 26) eL_randomField_21 (by decide) ?_
    exact jn26 29 (by omega)

set_option maxRecDepth 4000 in
set_option maxHeartbeats 4000000 in
theorem rg_R2 {w : am_w} {d : Nat} {Q : RV → AH → Prop} {h : AH} {o bu r bs : Nat} {D0 cm : Int → Int} {sc : Nat} {L : GL} {le : Int} {Hs : List GE} {Z : List Int} {f sa pa : Nat} {gs gp : Int → Option Nat} {a b : Int} (ha : 2 ≤ a ∧ a ≤ 30) (hb : 2 ≤ b ∧ b ≤ 30) (hd : 80 ≤ d) (hI : RFS w o bu r f sa pa bs gs gp none h (gm_emp a b) D0 cm sc L le Hs Z) (kk : ∀ (v : Int) (h1 : AH), (2 ≤ v ∧ v ≤ 30) → RFS w o bu r f sa pa bs gs gp none h1 (gm_emp a v) D0 cm sc L le Hs Z → (h1.2.1 ≤ h.2.1 + 0 ∧ h1.2.2 ≤ h.2.2 + 0) → AQ w m_L_randomField d 58 [(0, vr o), (1, vr bu), (2, vr r), (3, vr f)] [] h1 Q)  : AQ w m_L_randomField d 33 [(0, vr o), (1, vr bu), (2, vr r), (3, vr f)] [] h Q := by
  have tb := hI.1.top
  have rr := hI.2.1.2.2.1
  have rb := hI.2.1.2.1
  refine q_blk (lv2 := [(0, vr o), (1, vr bu), (2, vr r), (3, vr f)]) (st2 := [vi 3, vr r, vr r, vi 2, vr f]) kL_randomField_33 rfl ?_
  refine AQ.callVi (av := [vi 3]) (st := [vr r, vi 2, vr f]) (c_X11_below hI.2.1.1 hI.2.1.2.2.1 (b := 3) (by omega) (by omega)) lk_RL_132 (by omega) rfl rfl hI.2.1.1.ob ⟨_, rfl, rfl⟩ (Nat.le_of_ble_eq_true rfl) eL_randomField_38 (fun z1 h3 e2 => ?_)
  obtain ⟨⟨z1a, z1b⟩, g4r, g4k⟩ := e2
  have g4i := hI.kr g4k g4r
  obtain ⟨-, ⟨g4a, g4b⟩, g4y, g4z⟩ := id g4k
  have jn51 : ∀ (u : Int), (u = 29 ∨ u = 9) → AQ w m_L_randomField d 51 [(0, vr o), (1, vr bu), (2, vr r), (3, vr f)] [vi u, vr r, vi 2, vr f] h3 (Q) := by
    intro u hj
    refine AQ.callVi (av := [vi u]) (st := [vi 2, vr f]) (c_X11_below g4i.2.1.1 g4i.2.1.2.2.1 (b := u) (by omega) (by omega)) lk_RL_132 (by omega) rfl rfl g4i.2.1.1.ob ⟨_, rfl, rfl⟩ (Nat.le_of_ble_eq_true rfl) eL_randomField_51 (fun z5 h7 e6 => ?_)
    obtain ⟨⟨z5a, z5b⟩, g8r, g8k⟩ := e6
    have g8i := g4i.kr g8k g8r
    obtain ⟨-, ⟨g8a, g8b⟩, g8y, g8z⟩ := id g8k
    refine q_blk (lv2 := [(0, vr o), (1, vr bu), (2, vr r), (3, vr f)]) (st2 := [vi (2 + z5), vr f]) kL_randomField_54 rfl ?_
    obtain ⟨⟨bf9, bs9, bp9⟩, C09, ⟨fz19, C19⟩, ⟨fz29, C29⟩, hst, hsh, hij⟩ := id g8i.2.2.1.1
    have bf9x0 := bf9.1.1
    have bf9x1 := bf9.1.2
    have bf9x2 := bf9.2.1
    have bf9x3 := bf9.2.2.1
    have bs9x0 := bs9.1.1
    have bs9x1 := bs9.1.2
    have bs9x2 := bs9.2.1
    have bs9x3 := bs9.2.2.1
    have bp9x0 := bp9.1.1
    have bp9x1 := bp9.1.2
    have bp9x2 := bp9.2.1
    have bp9x3 := bp9.2.2.1
    refine q_pi eL_randomField_55 fl_RL_141 (fun q hq => by cases hq; exact Or.inl rfl) (Or.inl rfl) C09 (Nat.le_of_ble_eq_true rfl) (l2 := [a, (2 + z5), 0, 0, 0]) rfl (fun h10 e11 => ?_)
    have e11K := KF.one e11
    have e11F : FLD h10 (LB o bu r r h7) f sa pa gs gp none (gm_emp a (2 + z5)) := g8i.2.2.1.1.cf (fun q _ n => am_ne e11 q n) (am_at e11) (fun i hi => by unfold gm_emp; repeat rw [if_neg (by omega)])
    have e11I := g8i.fl e11K (fun q z => Or.inl (Or.inl z)) (g8i.2.1.1.mv (e11K.1 r g8i.2.1.2.2.1 (fun z => g8i.2.2.1.1.1.1.2.2.1 z.symm))) (e11F.loc (fun _ _ => rfl) (fun q b => Or.inl b)) (FX.emp ⟨by omega, by omega⟩ ⟨by omega, by omega⟩)
    obtain ⟨-, ⟨e11a, e11b⟩, e11y, e11z⟩ := id e11K
    exact kk _ h10 ⟨by omega, by omega⟩ e11I ⟨by omega, by omega⟩
  refine AQ.if_ne (tgt := 49) eL_randomField_41 (by decide) (by first | assumption | exact ⟨by omega, by omega⟩ | exact ⟨by decide, by decide⟩) (fun br12 => ?_) (fun br12 => ?_)
  · skip
    refine q_blk (lv2 := [(0, vr o), (1, vr bu), (2, vr r), (3, vr f)]) (st2 := [vi 9, vr r, vi 2, vr f]) kL_randomField_49 rfl ?_
    exact jn51 9 (by omega)
  · skip
    refine q_blk (lv2 := [(0, vr o), (1, vr bu), (2, vr r), (3, vr f)]) (st2 := [vi 29, vr r, vi 2, vr f]) kL_randomField_44 rfl ?_
    refine q_goto (tgt := 51) eL_randomField_46 (by decide) ?_
    exact jn51 29 (by omega)

set_option maxRecDepth 4000 in
set_option maxHeartbeats 4000000 in
theorem rg_R3 {w : am_w} {d : Nat} {Q : RV → AH → Prop} {h : AH} {o bu r bs : Nat} {D0 cm : Int → Int} {sc : Nat} {L : GL} {le : Int} {Hs : List GE} {Z : List Int} {f sa pa : Nat} {gs gp : Int → Option Nat} {D : Int → Int} (hd : 80 ≤ d) (hI : RFS w o bu r f sa pa bs gs gp none h D D0 cm sc L le Hs Z) (hz : Z.length ≤ 500) (kk : ∀ (g : Int → Int) (h1 : AH), g 0 = D 0 → g 1 = D 1 → RFS w o bu r f sa pa bs gs gp none h1 D D0 cm sc L le Hs (Z ++ gm_lit 18 ++ gx_nums g (2 : Int).toNat ++ gm_lit 20) → (gx_nums g (2 : Int).toNat).length ≤ 6 → (h1.2.1 ≤ h.2.1 + 1 ∧ h1.2.2 ≤ h.2.2 + 2) → AQ w m_L_randomField d 89 [(0, vr o), (1, vr bu), (2, vr r), (3, vr f)] [] h1 Q)  : AQ w m_L_randomField d 58 [(0, vr o), (1, vr bu), (2, vr r), (3, vr f)] [] h Q := by
  have hD := hI.2.2.1.2.1
  have d0 := hD.1
  have d1 := hD.2.1
  have d2 := hD.2.2.1
  have d3 := hD.2.2.2.1
  have tb := hI.1.top
  have rr := hI.2.1.2.2.1
  have rb := hI.2.1.2.1
  have hbo := hI.2.2.2.2
  have l18 := (hI.2.2.2.1.2.1 18 (by decide)).1
  have l18a := l18.1
  have l18c := l18.2
  have a18 : (gm_lit 18).length = 5 := by rw [gx_l18]; rfl
  have l20 := (hI.2.2.2.1.2.1 20 (by decide)).1
  have l20a := l20.1
  have l20c := l20.2
  have a20 : (gm_lit 20).length = 1 := by rw [gx_l20]; rfl
  obtain ⟨⟨bf1, bs1, bp1⟩, C01, ⟨fz11, C11⟩, ⟨fz21, C21⟩, hst, hsh, hij⟩ := id hI.2.2.1.1
  have bf1x0 := bf1.1.1
  have bf1x1 := bf1.1.2
  have bf1x2 := bf1.2.1
  have bf1x3 := bf1.2.2.1
  have bs1x0 := bs1.1.1
  have bs1x1 := bs1.1.2
  have bs1x2 := bs1.2.1
  have bs1x3 := bs1.2.2.1
  have bp1x0 := bp1.1.1
  have bp1x1 := bp1.1.2
  have bp1x2 := bp1.2.1
  have bp1x3 := bp1.2.2.1
  refine q_blk (lv2 := [(0, vr o), (1, vr bu), (2, vr r), (3, vr f)]) (st2 := [vr bu, vr o]) kL_randomField_58 rfl ?_
  refine AQ.of (AS.ldcS (i := 18) (by decide) (by decide) eL_randomField_60) ?_
  refine q_blk (lv2 := [(0, vr o), (1, vr bu), (2, vr r), (3, vr f)]) (st2 := [vi 2, vr (w.2 18), vr bu, vr o]) kL_randomField_62 rfl ?_
  obtain ⟨t2, e4t⟩ : ∃ q : Nat, h.2.1 = q := ⟨_, rfl⟩
  refine q_na (k := 100) 2 rfl e4t eL_randomField_63 (Or.inl ⟨rfl, rfl⟩) (am_gw 120 (by decide +kernel) (by decide +kernel)) (by omega) (by omega) (fun h3 e4c e4f e4z => ?_)
  have k5 := (e4f f (by omega)).trans C01
  have k6 := (e4f sa (by omega)).trans C11
  have k7 := (e4f pa (by omega)).trans C21
  have e4u : h3.2.1 = t2 + 1 := by rw [e4z]
  have e4v : h3.2.2 = h.2.2 + 2 := by rw [e4z]
  have F8 : ∀ q, q < h.2.1 → ¬ NO q → h3.1 q = h.1 q := fun q q0 q1 => (e4f q (by omega)).trans ((fun _ _ _ => rfl) q q0 q1)
  refine q_blk (lv2 := [(0, vr o), (1, vr bu), (2, vr r), (3, vr f)]) (st2 := [vr f, vi 0, vr t2, vr t2, vr (w.2 18), vr bu, vr o]) kL_randomField_65 rfl ?_
  refine q_gi eL_randomField_68 fl_RL_137 (Or.inl rfl) k5 (z := (D 0)) rfl ?_
  refine q_is eL_randomField_71 e4c (by omega) (by omega) (fun h9 e10 => ?_)
  have k11 := (am_ne e10 f (by omega)).trans k5
  have k12 := (am_ne e10 sa (by omega)).trans k6
  have k13 := (am_ne e10 pa (by omega)).trans k7
  have k14 := am_at e10
  have e10u : h9.2.1 = h3.2.1 := congrArg Prod.fst (am_z e10)
  have e10v : h9.2.2 = h3.2.2 := congrArg Prod.snd (am_z e10)
  have F15 : ∀ q, q < h.2.1 → ¬ NO q → h9.1 q = h.1 q := fun q q0 q1 => (am_ne e10 q (by omega)).trans (F8 q q0 q1)
  refine q_blk (lv2 := [(0, vr o), (1, vr bu), (2, vr r), (3, vr f)]) (st2 := [vr f, vi 1, vr t2, vr t2, vr (w.2 18), vr bu, vr o]) kL_randomField_72 rfl ?_
  refine q_gi eL_randomField_75 fl_RL_141 (Or.inl rfl) k11 (z := (D 1)) rfl ?_
  refine q_is eL_randomField_78 k14 (by omega) (by omega) (fun h16 e17 => ?_)
  have k18 := (am_ne e17 f (by omega)).trans k11
  have k19 := (am_ne e17 sa (by omega)).trans k12
  have k20 := (am_ne e17 pa (by omega)).trans k13
  have k21 := am_at e17
  have e17u : h16.2.1 = h9.2.1 := congrArg Prod.fst (am_z e17)
  have e17v : h16.2.2 = h9.2.2 := congrArg Prod.snd (am_z e17)
  have F22 : ∀ q, q < h.2.1 → ¬ NO q → h16.1 q = h.1 q := fun q q0 q1 => (am_ne e17 q (by omega)).trans (F15 q q0 q1)
  have I23 := hI.kn (h1 := h16) (c := 30) (s := 300) ⟨F22, ⟨by omega, by omega⟩, by omega, by omega⟩
  have hf24 : ∀ j9 : Int, 0 ≤ j9 → j9 < 2 → 0 ≤ (am_uI (am_uI am_Z 0 (D 0)) 1 (D 1)) j9 ∧ (am_uI (am_uI am_Z 0 (D 0)) 1 (D 1)) j9 < 100 := fun j9 j90 j91 => by unfold am_uI; split <;> (try split) <;> (try split) <;> omega
  refine AQ.callSv (av := [vr o, vr bu, vr (w.2 18), vr t2]) (st := []) (c_L_writeNumbers I23.1 k21 (by omega) (fun z => by omega) (by omega) ⟨by omega, by omega⟩ hf24 (I23.2.2.2.1.2.1.st (i := 18) I23.2.2.2.1.1 (by decide)) (fun z => by omega) (fun z => by omega) (by (try simp only [List.length_append]); omega) I23.2.2.2.1 hbo) lk_RL_146 (by omega) rfl rfl (Nat.le_of_ble_eq_true rfl) eL_randomField_79 (fun h27 e26 => ?_)
  obtain ⟨g28T, g28k⟩ := e26
  have g28i := I23.wr g28k g28T
  obtain ⟨-, ⟨g28a, g28b⟩, g28y, g28z⟩ := id g28k
  have hf24l : (gx_nums (am_uI (am_uI am_Z 0 (D 0)) 1 (D 1)) (2 : Int).toNat).length ≤ 3 * 2 := gx_nums_l (n := 2) hf24
  refine q_blk (lv2 := [(0, vr o), (1, vr bu), (2, vr r), (3, vr f)]) (st2 := [vr bu, vr o]) kL_randomField_82 rfl ?_
  refine AQ.of (AS.ldcS (i := 20) (by decide) (by decide) eL_randomField_84) ?_
  refine AQ.callSv (av := [vr o, vr bu, vr (w.2 20)]) (st := []) (c_L_write g28i.1 (g28i.2.2.2.1.2.1.st (i := 20) g28i.2.2.2.1.1 (by decide)) (fun z => by omega) (fun z => by omega) (by (try simp only [List.length_append]); omega)) lk_RL_120 (by omega) rfl rfl (Nat.le_of_ble_eq_true rfl) eL_randomField_86 (fun h31 e30 => ?_)
  obtain ⟨g32T, g32k⟩ := e30
  have g32i := g28i.wr g32k g32T
  obtain ⟨-, ⟨g32a, g32b⟩, g32y, g32z⟩ := id g32k
  exact kk (am_uI (am_uI am_Z 0 (D 0)) 1 (D 1)) h31 rfl rfl g32i (by omega) ⟨by omega, by omega⟩

set_option maxRecDepth 4000 in
set_option maxHeartbeats 4000000 in
theorem rg_R4 {w : am_w} {d : Nat} {Q : RV → AH → Prop} {h : AH} {o bu r bs : Nat} {D0 cm : Int → Int} {sc : Nat} {L : GL} {le : Int} {Hs : List GE} {Z : List Int} {f sa pa : Nat} {gs gp : Int → Option Nat} {D : Int → Int} (hd : 80 ≤ d) (hI : RFS w o bu r f sa pa bs gs gp none h D D0 cm sc L le Hs Z) (kk : ∀ (n : Int) (h1 : AH), (0 ≤ n ∧ n < 6) → RFS w o bu r f sa pa bs gs gp none h1 D D0 cm sc L le Hs Z → (h1.2.1 ≤ h.2.1 + 0 ∧ h1.2.2 ≤ h.2.2 + 0) → AQ w m_L_randomField d 97 [(0, vr o), (1, vr bu), (2, vr r), (3, vr f), (4, vi n)] [] h1 Q)  : AQ w m_L_randomField d 89 [(0, vr o), (1, vr bu), (2, vr r), (3, vr f)] [] h Q := by
  have hD := hI.2.2.1.2.1
  have d0 := hD.1
  have d1 := hD.2.1
  have d2 := hD.2.2.1
  have d3 := hD.2.2.2.1
  have tb := hI.1.top
  have rr := hI.2.1.2.2.1
  have rb := hI.2.1.2.1
  have hbo := hI.2.2.2.2
  refine q_blk (lv2 := [(0, vr o), (1, vr bu), (2, vr r), (3, vr f)]) (st2 := [vi 6, vr r]) kL_randomField_89 rfl ?_
  refine AQ.callVi (av := [vi 6]) (st := []) (c_X11_below hI.2.1.1 hI.2.1.2.2.1 (b := 6) (by omega) (by omega)) lk_RL_132 (by omega) rfl rfl hI.2.1.1.ob ⟨_, rfl, rfl⟩ (Nat.le_of_ble_eq_true rfl) eL_randomField_92 (fun z1 h3 e2 => ?_)
  obtain ⟨⟨z1a, z1b⟩, g4r, g4k⟩ := e2
  have g4i := hI.kr g4k g4r
  obtain ⟨-, ⟨g4a, g4b⟩, g4y, g4z⟩ := id g4k
  refine q_blk (lv2 := [(0, vr o), (1, vr bu), (2, vr r), (3, vr f), (4, vi z1)]) (st2 := []) kL_randomField_95 rfl ?_
  exact kk z1 h3 ⟨by omega, by omega⟩ g4i ⟨by omega, by omega⟩

set_option maxRecDepth 4000 in
set_option maxHeartbeats 4000000 in
theorem rg_R5 {w : am_w} {d : Nat} {Q : RV → AH → Prop} {h : AH} {o bu r bs : Nat} {D0 cm : Int → Int} {sc : Nat} {L : GL} {le : Int} {Hs : List GE} {Z : List Int} {f sa pa : Nat} {gs gp : Int → Option Nat} {D : Int → Int} {n0 : Int} (hd : 80 ≤ d) (hI : RFS w o bu r f sa pa bs gs gp none h D D0 cm sc L le Hs Z) (kk : ∀ (n : Int) (h1 : AH), (0 ≤ n ∧ n < 4) → RFS w o bu r f sa pa bs gs gp none h1 D D0 cm sc L le Hs Z → (h1.2.1 ≤ h.2.1 + 0 ∧ h1.2.2 ≤ h.2.2 + 0) → AQ w m_L_randomField d 258 [(0, vr o), (1, vr bu), (2, vr r), (3, vr f), (4, vi n)] [] h1 Q)  : AQ w m_L_randomField d 251 [(0, vr o), (1, vr bu), (2, vr r), (3, vr f), (4, vi n0)] [] h Q := by
  have hD := hI.2.2.1.2.1
  have d0 := hD.1
  have d1 := hD.2.1
  have d2 := hD.2.2.1
  have d3 := hD.2.2.2.1
  have tb := hI.1.top
  have rr := hI.2.1.2.2.1
  have rb := hI.2.1.2.1
  have hbo := hI.2.2.2.2
  refine q_blk (lv2 := [(0, vr o), (1, vr bu), (2, vr r), (3, vr f), (4, vi n0)]) (st2 := [vi 4, vr r]) kL_randomField_251 rfl ?_
  refine AQ.callVi (av := [vi 4]) (st := []) (c_X11_below hI.2.1.1 hI.2.1.2.2.1 (b := 4) (by omega) (by omega)) lk_RL_132 (by omega) rfl rfl hI.2.1.1.ob ⟨_, rfl, rfl⟩ (Nat.le_of_ble_eq_true rfl) eL_randomField_253 (fun z1 h3 e2 => ?_)
  obtain ⟨⟨z1a, z1b⟩, g4r, g4k⟩ := e2
  have g4i := hI.kr g4k g4r
  obtain ⟨-, ⟨g4a, g4b⟩, g4y, g4z⟩ := id g4k
  refine q_blk (lv2 := [(0, vr o), (1, vr bu), (2, vr r), (3, vr f), (4, vi z1)]) (st2 := []) kL_randomField_256 rfl ?_
  exact kk z1 h3 ⟨by omega, by omega⟩ g4i ⟨by omega, by omega⟩

set_option maxRecDepth 4000 in
set_option maxHeartbeats 4000000 in
theorem rg_S1 {w : am_w} {d : Nat} {Q : RV → AH → Prop} {h : AH} {o bu r bs : Nat} {D0 cm : Int → Int} {sc : Nat} {L : GL} {le : Int} {Hs : List GE} {Z : List Int} {f sa pa : Nat} {gs gp : Int → Option Nat} {D : Int → Int} {n : Int} (hd : 80 ≤ d) (hI : RFS w o bu r f sa pa bs gs gp none h D D0 cm sc L le Hs Z) (kk0 : ∀ (h1 : AH), RFS w o bu r f sa pa bs gs gp none h1 D D0 cm sc L le Hs Z → (h1.2.1 ≤ h.2.1 + 0 ∧ h1.2.2 ≤ h.2.2 + 0) → AQ w m_L_randomField d 245 [(0, vr o), (1, vr bu), (2, vr r), (3, vr f), (4, vi n)] [] h1 Q) (kk1 : ∀ (x y : Int) (h1 : AH), (0 ≤ x ∧ x ≤ D 0) → (0 ≤ y ∧ y ≤ D 1) → ¬ gm_stn D x y → RFS w o bu r f sa pa bs gs gp none h1 D D0 cm sc L le Hs Z → (h1.2.1 ≤ h.2.1 + 0 ∧ h1.2.2 ≤ h.2.2 + 0) → AQ w m_L_randomField d 140 [(0, vr o), (1, vr bu), (2, vr r), (3, vr f), (4, vi n), (5, vi x), (6, vi y)] [] h1 Q)  : AQ w m_L_randomField d 102 [(0, vr o), (1, vr bu), (2, vr r), (3, vr f), (4, vi n)] [] h Q := by
  have hD := hI.2.2.1.2.1
  have d0 := hD.1
  have d1 := hD.2.1
  have d2 := hD.2.2.1
  have d3 := hD.2.2.2.1
  have tb := hI.1.top
  have rr := hI.2.1.2.2.1
  have rb := hI.2.1.2.1
  have hbo := hI.2.2.2.2
  refine q_blk (lv2 := [(0, vr o), (1, vr bu), (2, vr r), (3, vr f), (4, vi n)]) (st2 := [vr f, vr r]) kL_randomField_102 rfl ?_
  obtain ⟨⟨bf1, bs1, bp1⟩, C01, ⟨fz11, C11⟩, ⟨fz21, C21⟩, hst, hsh, hij⟩ := id hI.2.2.1.1
  have bf1x0 := bf1.1.1
  have bf1x1 := bf1.1.2
  have bf1x2 := bf1.2.1
  have bf1x3 := bf1.2.2.1
  have bs1x0 := bs1.1.1
  have bs1x1 := bs1.1.2
  have bs1x2 := bs1.2.1
  have bs1x3 := bs1.2.2.1
  have bp1x0 := bp1.1.1
  have bp1x1 := bp1.1.2
  have bp1x2 := bp1.2.1
  have bp1x3 := bp1.2.2.1
  refine q_gi eL_randomField_104 fl_RL_137 (Or.inl rfl) C01 (z := (D 0)) rfl ?_
  refine q_blk (lv2 := [(0, vr o), (1, vr bu), (2, vr r), (3, vr f), (4, vi n)]) (st2 := [vi ((D 0) + 1), vr r]) kL_randomField_107 rfl ?_
  refine AQ.callVi (av := [vi ((D 0) + 1)]) (st := []) (c_X11_below hI.2.1.1 hI.2.1.2.2.1 (b := ((D 0) + 1)) (by omega) (by omega)) lk_RL_132 (by omega) rfl rfl hI.2.1.1.ob ⟨_, rfl, rfl⟩ (Nat.le_of_ble_eq_true rfl) eL_randomField_109 (fun z2 h4 e3 => ?_)
  obtain ⟨⟨z2a, z2b⟩, g5r, g5k⟩ := e3
  have g5i := hI.kr g5k g5r
  obtain ⟨-, ⟨g5a, g5b⟩, g5y, g5z⟩ := id g5k
  refine q_blk (lv2 := [(0, vr o), (1, vr bu), (2, vr r), (3, vr f), (4, vi n), (5, vi z2)]) (st2 := [vr f, vr r]) kL_randomField_112 rfl ?_
  obtain ⟨⟨bf6, bs6, bp6⟩, C06, ⟨fz16, C16⟩, ⟨fz26, C26⟩, hst, hsh, hij⟩ := id g5i.2.2.1.1
  have bf6x0 := bf6.1.1
  have bf6x1 := bf6.1.2
  have bf6x2 := bf6.2.1
  have bf6x3 := bf6.2.2.1
  have bs6x0 := bs6.1.1
  have bs6x1 := bs6.1.2
  have bs6x2 := bs6.2.1
  have bs6x3 := bs6.2.2.1
  have bp6x0 := bp6.1.1
  have bp6x1 := bp6.1.2
  have bp6x2 := bp6.2.1
  have bp6x3 := bp6.2.2.1
  refine q_gi eL_randomField_116 fl_RL_141 (Or.inl rfl) C06 (z := (D 1)) rfl ?_
  refine q_blk (lv2 := [(0, vr o), (1, vr bu), (2, vr r), (3, vr f), (4, vi n), (5, vi z2)]) (st2 := [vi ((D 1) + 1), vr r]) kL_randomField_119 rfl ?_
  refine AQ.callVi (av := [vi ((D 1) + 1)]) (st := []) (c_X11_below g5i.2.1.1 g5i.2.1.2.2.1 (b := ((D 1) + 1)) (by omega) (by omega)) lk_RL_132 (by omega) rfl rfl g5i.2.1.1.ob ⟨_, rfl, rfl⟩ (Nat.le_of_ble_eq_true rfl) eL_randomField_121 (fun z7 h9 e8 => ?_)
  obtain ⟨⟨z7a, z7b⟩, g10r, g10k⟩ := e8
  have g10i := g5i.kr g10k g10r
  obtain ⟨-, ⟨g10a, g10b⟩, g10y, g10z⟩ := id g10k
  refine q_blk (lv2 := [(0, vr o), (1, vr bu), (2, vr r), (3, vr f), (4, vi n), (5, vi z2), (6, vi z7)]) (st2 := [vi z7, vi z2, vr f]) kL_randomField_124 rfl ?_
  refine q_Vi (av := [vi z2, vi z7]) (st := []) (c_X9_isStone g10i.2.2.1.1 g10i.2.2.1.2.1  (x := z2) (y := z7) ⟨by omega, by omega⟩ ⟨by omega, by omega⟩) lk_RL_152 (by omega) rfl rfl g10i.2.2.1.1.ob ⟨_, rfl, rfl⟩ (Nat.le_of_ble_eq_true rfl) eL_randomField_131 (fun z11 e12 => ?_)
  rcases e12 with ⟨rfl, e12⟩ | ⟨rfl, e12⟩
  · skip
    refine AQ.of (AS.if_eq_f eL_randomField_134 ⟨by decide, by decide⟩ (by decide) (by decide)) ?_
    refine q_goto (tgt := 245) eL_randomField_137 (by decide) ?_
    refine q_sub (lv2 := [(0, vr o), (1, vr bu), (2, vr r), (3, vr f), (4, vi n)]) [0, 1, 2, 3, 4] rfl ?_
    exact kk0 h9 g10i ⟨by omega, by omega⟩
  · skip
    refine AQ.of (AS.if_eq_t (tgt := 140) eL_randomField_134 (by decide) ⟨by decide, by decide⟩ (by decide)) ?_
    exact kk1 z2 z7 h9 ⟨by omega, by omega⟩ ⟨by omega, by omega⟩ e12 g10i ⟨by omega, by omega⟩

set_option maxRecDepth 4000 in
set_option maxHeartbeats 4000000 in
theorem rg_S2 {w : am_w} {d : Nat} {Q : RV → AH → Prop} {h : AH} {o bu r bs : Nat} {D0 cm : Int → Int} {sc : Nat} {L : GL} {le : Int} {Hs : List GE} {Z : List Int} {f sa pa : Nat} {gs gp : Int → Option Nat} {D : Int → Int} {n x y : Int} (hd : 80 ≤ d) (hI : RFS w o bu r f sa pa bs gs gp none h D D0 cm sc L le Hs Z) (d2e : D 2 < 20) (kk : ∀ {t : Nat} {gk : Int → Option Nat} (h1 : AH), h1.1 t = some (105, D 2 + 1, am_Z, gk) → FR h h1 t → (∀ p, 0 ≤ p → p < D 2 → gk p = gs p) → KF h h1 NO 1 21 → AQ w m_L_randomField d 183 [(0, vr o), (1, vr bu), (2, vr r), (3, vr f), (4, vi n), (5, vi x), (6, vi y), (7, vr t)] [] h1 Q)  : AQ w m_L_randomField d 140 [(0, vr o), (1, vr bu), (2, vr r), (3, vr f), (4, vi n), (5, vi x), (6, vi y)] [] h Q := by
  have hD := hI.2.2.1.2.1
  have d0 := hD.1
  have d1 := hD.2.1
  have d2 := hD.2.2.1
  have d3 := hD.2.2.2.1
  have tb := hI.1.top
  have rr := hI.2.1.2.2.1
  have rb := hI.2.1.2.1
  have hbo := hI.2.2.2.2
  obtain ⟨⟨bf1, bs1, bp1⟩, C01, ⟨fz11, C11⟩, ⟨fz21, C21⟩, hst, hsh, hij⟩ := id hI.2.2.1.1
  have bf1x0 := bf1.1.1
  have bf1x1 := bf1.1.2
  have bf1x2 := bf1.2.1
  have bf1x3 := bf1.2.2.1
  have bs1x0 := bs1.1.1
  have bs1x1 := bs1.1.2
  have bs1x2 := bs1.2.1
  have bs1x3 := bs1.2.2.1
  have bp1x0 := bp1.1.1
  have bp1x1 := bp1.1.2
  have bp1x2 := bp1.2.1
  have bp1x3 := bp1.2.2.1
  refine q_blk (lv2 := [(0, vr o), (1, vr bu), (2, vr r), (3, vr f), (4, vi n), (5, vi x), (6, vi y)]) (st2 := [vr f]) kL_randomField_140 rfl ?_
  refine q_gr eL_randomField_141 fl_RL_156 (Or.inr ⟨_, rfl⟩) C01 rfl ?_
  refine q_al eL_randomField_144 C11 (by decide) ?_
  refine q_blk (lv2 := [(0, vr o), (1, vr bu), (2, vr r), (3, vr f), (4, vi n), (5, vi x), (6, vi y)]) (st2 := [vi ((D 2) + 1)]) kL_randomField_145 rfl ?_
  obtain ⟨t2, e4t⟩ : ∃ q : Nat, h.2.1 = q := ⟨_, rfl⟩
  refine q_nA (((D 2) + 1).toNat) rfl e4t eL_randomField_147 (am_gw 1248 (by decide +kernel) (by decide +kernel)) (by omega) (by omega) (fun h3 e4c e4f e4z => ?_)
  have k5 := (e4f f (by omega)).trans C01
  have k6 := (e4f sa (by omega)).trans C11
  have k7 := (e4f pa (by omega)).trans C21
  have e4u : h3.2.1 = t2 + 1 := by rw [e4z]
  have e4v : h3.2.2 = h.2.2 + (((D 2) + 1).toNat) := by rw [e4z]
  have F8 : ∀ q, q < h.2.1 → ¬ NO q → h3.1 q = h.1 q := fun q q0 q1 => (e4f q (by omega)).trans ((fun _ _ _ => rfl) q q0 q1)
  refine q_blk (lv2 := [(0, vr o), (1, vr bu), (2, vr r), (3, vr f), (4, vi n), (5, vi x), (6, vi y), (7, vr t2), (8, vi 0)]) (st2 := []) kL_randomField_150 rfl ?_
  refine am_lp3 (I := fun (k : Int) (hh : AH) (gk : Int → Option Nat) => (0 ≤ k ∧ k ≤ D 2) ∧ hh.1 t2 = some (105, D 2 + 1, am_Z, gk) ∧ t2 < hh.2.1 ∧ (∀ p, 0 ≤ p → p < k → gk p = gs p) ∧ KF h hh NO 1 21) (μ := fun (k : Int) (hh : AH) (gk : Int → Option Nat) => (D 2 - k).toNat) (G := fun (k : Int) (hh : AH) (gk : Int → Option Nat) => AQ w m_L_randomField d 155 [(0, vr o), (1, vr bu), (2, vr r), (3, vr f), (4, vi n), (5, vi x), (6, vi y), (7, vr t2), (8, vi k)] [] hh (Q)) ?_ 0 h3 am_N (⟨⟨by omega, by omega⟩, e4c, by omega, fun p p0 p1 => by omega, ⟨F8, ⟨by omega, by omega⟩, by omega, by omega⟩⟩)
  intro k hh gk hI10 ih9
  obtain ⟨⟨k0, k1⟩, kt1, tt, hg, kfF, ⟨kfa, kfb⟩, kfc, kfd⟩ := hI10
  have kof := (kfF f bf1x1 id).trans C01
  have kos := (kfF sa bs1x1 id).trans C11
  refine q_blk (lv2 := [(0, vr o), (1, vr bu), (2, vr r), (3, vr f), (4, vi n), (5, vi x), (6, vi y), (7, vr t2), (8, vi k)]) (st2 := [vr f, vi k]) kL_randomField_155 rfl ?_
  refine q_gr eL_randomField_158 fl_RL_156 (Or.inr ⟨_, rfl⟩) kof rfl ?_
  refine q_al eL_randomField_161 kos (by decide) ?_
  refine AQ.ic_ge (tgt := 183) eL_randomField_162 (by decide) (by first | assumption | exact ⟨by omega, by omega⟩ | exact ⟨by decide, by decide⟩) (by first | assumption | exact ⟨by omega, by omega⟩ | exact ⟨by decide, by decide⟩) (fun br11 => ?_) (fun br11 => ?_)
  · skip
    refine q_sub (lv2 := [(0, vr o), (1, vr bu), (2, vr r), (3, vr f), (4, vi n), (5, vi x), (6, vi y), (7, vr t2)]) [0, 1, 2, 3, 4, 5, 6, 7] rfl ?_
    exact kk (t := t2) (gk := gk) hh kt1 ⟨by omega, by omega⟩ (fun p p0 p1 => hg p p0 (by omega)) ⟨kfF, ⟨kfa, kfb⟩, kfc, kfd⟩
  · skip
    refine q_blk (lv2 := [(0, vr o), (1, vr bu), (2, vr r), (3, vr f), (4, vi n), (5, vi x), (6, vi y), (7, vr t2), (8, vi k)]) (st2 := [vr f, vi k, vr t2]) kL_randomField_165 rfl ?_
    refine q_gr eL_randomField_170 fl_RL_156 (Or.inr ⟨_, rfl⟩) kof rfl ?_
    refine q_blk (lv2 := [(0, vr o), (1, vr bu), (2, vr r), (3, vr f), (4, vi n), (5, vi x), (6, vi y), (7, vr t2), (8, vi k)]) (st2 := [vi k, vr sa, vi k, vr t2]) kL_randomField_173 rfl ?_
    obtain ⟨q12, f12, g12, w12, c12, x12, y12, v12⟩ := hst k (by omega) (by omega)
    have m12 := (kfF q12 w12.1.2 id).trans c12
    have b12 := w12.1.2
    refine q_aa eL_randomField_175 kos (by decide) (by omega) (by omega) g12 ?_
    refine AQ.of (AS.aastA eL_randomField_176 kt1 (by omega) (by omega) m12) ?_
    obtain ⟨h13, e14⟩ : ∃ q, q = am_set hh t2 (105, (D 2 + 1), am_Z, am_uR gk k (some q12)) := ⟨_, rfl⟩
    rw [← e14]
    have k15 := (am_ne e14 f (by omega)).trans kof
    have k16 := (am_ne e14 sa (by omega)).trans kos
    have k17 := am_at e14
    have k18 := (am_ne e14 q12 (by omega)).trans m12
    have e14u : h13.2.1 = hh.2.1 := congrArg Prod.fst (am_z e14)
    have e14v : h13.2.2 = hh.2.2 := congrArg Prod.snd (am_z e14)
    have F19 : ∀ q, q < h.2.1 → ¬ NO q → h13.1 q = h.1 q := fun q q0 q1 => (am_ne e14 q (by omega)).trans (kfF q q0 q1)
    refine q_blk (lv2 := [(0, vr o), (1, vr bu), (2, vr r), (3, vr f), (4, vi n), (5, vi x), (6, vi y), (7, vr t2), (8, vi (k + 1))]) (st2 := []) kL_randomField_177 rfl ?_
    refine q_goto (tgt := 155) eL_randomField_180 (by decide) ?_
    exact ih9 (k + 1) h13 (am_uR gk k (some q12)) (⟨⟨by omega, by omega⟩, k17, by omega, (fun p p0 p1 => (show p = k ∨ p < k by omega).elim (fun e9 => by subst e9; unfold am_uR; rw [if_pos rfl]; exact g12.symm) (fun e9 => by unfold am_uR; rw [if_neg (by omega)]; exact hg p p0 e9)), ⟨F19, ⟨by omega, by omega⟩, by omega, by omega⟩⟩) (by omega)

set_option maxRecDepth 4000 in
set_option maxHeartbeats 4000000 in
theorem rg_S3 {w : am_w} {d : Nat} {Q : RV → AH → Prop} {h : AH} {o bu r bs : Nat} {D0 cm : Int → Int} {sc : Nat} {L : GL} {le : Int} {Hs : List GE} {Z : List Int} {f sa pa : Nat} {gs gp : Int → Option Nat} {D : Int → Int} {n x y : Int} {t : Nat} {gk : Int → Option Nat} {hx : AH} (hd : 80 ≤ d) (hI : RFS w o bu r f sa pa bs gs gp none h D D0 cm sc L le Hs Z) (d2e : D 2 < 20) (d3e : D 3 = 0) (hxx : 0 ≤ x ∧ x ≤ D 0) (hyy : 0 ≤ y ∧ y ≤ D 1) (hz : Z.length ≤ 500) (ct : hx.1 t = some (105, D 2 + 1, am_Z, gk)) (ft : FR h hx t) (hg : ∀ p, 0 ≤ p → p < D 2 → gk p = gs p) (K9 : KF h hx NO 1 21) (kk : ∀ (g : Int → Int) {sa' : Nat} {gs' : Int → Option Nat} (h1 : AH), (g 0 = x ∧ g 1 = y ∧ 1 ≤ g 2 ∧ g 2 ≤ 99) → RFS w o bu r f sa' pa bs gs' gp none h1 (gm_addS D (g 0) (g 1) (g 2)) D0 cm sc L le Hs (Z ++ gm_lit 21 ++ gx_nums g (3 : Int).toNat ++ gm_lit 20) → (gx_nums g (3 : Int).toNat).length ≤ 9 → (h1.2.1 ≤ h.2.1 + 2 ∧ h1.2.2 ≤ h.2.2 + 24) → AQ w m_L_randomField d 245 [(0, vr o), (1, vr bu), (2, vr r), (3, vr f), (4, vi n)] [] h1 Q)  : AQ w m_L_randomField d 183 [(0, vr o), (1, vr bu), (2, vr r), (3, vr f), (4, vi n), (5, vi x), (6, vi y), (7, vr t)] [] hx Q := by
  have hD := hI.2.2.1.2.1
  have d0 := hD.1
  have d1 := hD.2.1
  have d2 := hD.2.2.1
  have d3 := hD.2.2.2.1
  have tb := hI.1.top
  have rr := hI.2.1.2.2.1
  have rb := hI.2.1.2.1
  have hbo := hI.2.2.2.2
  have l20 := (hI.2.2.2.1.2.1 20 (by decide)).1
  have l20a := l20.1
  have l20c := l20.2
  have a20 : (gm_lit 20).length = 1 := by rw [gx_l20]; rfl
  have l21 := (hI.2.2.2.1.2.1 21 (by decide)).1
  have l21a := l21.1
  have l21c := l21.2
  have a21 : (gm_lit 21).length = 5 := by rw [gx_l21]; rfl
  obtain ⟨-, ⟨k9a, k9b⟩, k9c, k9d⟩ := id K9
  have ft1 := ft.1
  have ft2 := ft.2
  obtain ⟨⟨bf1, bs1, bp1⟩, C01, ⟨fz11, C11⟩, ⟨fz21, C21⟩, hst, hsh, hij⟩ := id hI.2.2.1.1
  have bf1x0 := bf1.1.1
  have bf1x1 := bf1.1.2
  have bf1x2 := bf1.2.1
  have bf1x3 := bf1.2.2.1
  have bs1x0 := bs1.1.1
  have bs1x1 := bs1.1.2
  have bs1x2 := bs1.2.1
  have bs1x3 := bs1.2.2.1
  have bp1x0 := bp1.1.1
  have bp1x1 := bp1.1.2
  have bp1x2 := bp1.2.1
  have bp1x3 := bp1.2.2.1
  have kof := (K9.1 f bf1x1 id).trans C01
  have kos := (K9.1 sa bs1x1 id).trans C11
  obtain ⟨sd9, R9⟩ := id hI.2.1.1
  have kor := (K9.1 r rr id).trans R9
  refine q_blk (lv2 := [(0, vr o), (1, vr bu), (2, vr r), (3, vr f), (4, vi n), (5, vi x), (6, vi y), (7, vr t)]) (st2 := [vr f, vr t]) kL_randomField_183 rfl ?_
  refine q_gr eL_randomField_186 fl_RL_156 (Or.inr ⟨_, rfl⟩) kof rfl ?_
  refine q_al eL_randomField_189 kos (by decide) ?_
  refine q_blk (lv2 := [(0, vr o), (1, vr bu), (2, vr r), (3, vr f), (4, vi n), (5, vi x), (6, vi y), (7, vr t)]) (st2 := [vi 3, vi (D 2), vr t]) kL_randomField_190 rfl ?_
  obtain ⟨t2, e4t⟩ : ∃ q : Nat, hx.2.1 = q := ⟨_, rfl⟩
  refine q_na (k := 100) 3 rfl e4t eL_randomField_191 (Or.inl ⟨rfl, rfl⟩) (am_gw 120 (by decide +kernel) (by decide +kernel)) (by omega) (by omega) (fun h3 e4c e4f e4z => ?_)
  have k5 := (e4f f (by omega)).trans kof
  have k6 := (e4f sa (by omega)).trans kos
  have k7 := (e4f t (by omega)).trans ct
  have k8 := (e4f r (by omega)).trans kor
  have e4u : h3.2.1 = t2 + 1 := by rw [e4z]
  have e4v : h3.2.2 = hx.2.2 + 3 := by rw [e4z]
  have F9 : ∀ q, q < h.2.1 → ¬ (fun q => q = r ∨ q = f) q → h3.1 q = h.1 q := fun q q0 q1 => (e4f q (by omega)).trans ((fun q q0 _ => K9.1 q q0 id) q q0 q1)
  refine q_blk (lv2 := [(0, vr o), (1, vr bu), (2, vr r), (3, vr f), (4, vi n), (5, vi x), (6, vi y), (7, vr t)]) (st2 := [vi x, vi 0, vr t2, vr t2, vi (D 2), vr t]) kL_randomField_193 rfl ?_
  refine q_is eL_randomField_197 e4c (by omega) (by omega) (fun h10 e11 => ?_)
  have k12 := (am_ne e11 f (by omega)).trans k5
  have k13 := (am_ne e11 t (by omega)).trans k7
  have k14 := (am_ne e11 r (by omega)).trans k8
  have k15 := am_at e11
  have e11u : h10.2.1 = h3.2.1 := congrArg Prod.fst (am_z e11)
  have e11v : h10.2.2 = h3.2.2 := congrArg Prod.snd (am_z e11)
  have F16 : ∀ q, q < h.2.1 → ¬ (fun q => q = r ∨ q = f) q → h10.1 q = h.1 q := fun q q0 q1 => (am_ne e11 q (by omega)).trans (F9 q q0 q1)
  refine q_blk (lv2 := [(0, vr o), (1, vr bu), (2, vr r), (3, vr f), (4, vi n), (5, vi x), (6, vi y), (7, vr t)]) (st2 := [vi y, vi 1, vr t2, vr t2, vi (D 2), vr t]) kL_randomField_198 rfl ?_
  refine q_is eL_randomField_202 k15 (by omega) (by omega) (fun h17 e18 => ?_)
  have k19 := (am_ne e18 f (by omega)).trans k12
  have k20 := (am_ne e18 t (by omega)).trans k13
  have k21 := (am_ne e18 r (by omega)).trans k14
  have k22 := am_at e18
  have e18u : h17.2.1 = h10.2.1 := congrArg Prod.fst (am_z e18)
  have e18v : h17.2.2 = h10.2.2 := congrArg Prod.snd (am_z e18)
  have F23 : ∀ q, q < h.2.1 → ¬ (fun q => q = r ∨ q = f) q → h17.1 q = h.1 q := fun q q0 q1 => (am_ne e18 q (by omega)).trans (F16 q q0 q1)
  refine q_blk (lv2 := [(0, vr o), (1, vr bu), (2, vr r), (3, vr f), (4, vi n), (5, vi x), (6, vi y), (7, vr t)]) (st2 := [vi 99, vr r, vi 1, vi 2, vr t2, vr t2, vi (D 2), vr t]) kL_randomField_203 rfl ?_
  refine AQ.callVi (av := [vi 99]) (st := [vi 1, vi 2, vr t2, vr t2, vi (D 2), vr t]) (c_X11_below ⟨_, k21⟩ (by omega) (b := 99) (by omega) (by omega)) lk_RL_132 (by omega) rfl rfl ⟨_, _, _, k21⟩ ⟨_, rfl, rfl⟩ (Nat.le_of_ble_eq_true rfl) eL_randomField_209 (fun z24 h26 e25 => ?_)
  obtain ⟨⟨z24a, z24b⟩, ⟨g27s, g27r⟩, g27f, ⟨g27a, g27b⟩, g27c, g27d⟩ := e25
  have k28 := (g27f f (by omega) (by show ¬ _ = _; omega)).trans k19
  have k29 := (g27f t (by omega) (by show ¬ _ = _; omega)).trans k20
  have k30 := (g27f t2 (by omega) (by show ¬ _ = _; omega)).trans k22
  have F31 : ∀ q, q < h.2.1 → ¬ (fun q => q = r ∨ q = f) q → h26.1 q = h.1 q := fun q q0 q1 => (g27f q (by omega) (fun c => q1 (Or.inl c))).trans (F23 q q0 q1)
  refine q_blk (lv2 := [(0, vr o), (1, vr bu), (2, vr r), (3, vr f), (4, vi n), (5, vi x), (6, vi y), (7, vr t)]) (st2 := [vi (1 + z24), vi 2, vr t2, vr t2, vi (D 2), vr t]) kL_randomField_212 rfl ?_
  refine q_is eL_randomField_213 k30 (by omega) (by omega) (fun h32 e33 => ?_)
  have k34 := (am_ne e33 f (by omega)).trans k28
  have k35 := (am_ne e33 t (by omega)).trans k29
  have k36 := (am_ne e33 r (by omega)).trans g27r
  have k37 := am_at e33
  have e33u : h32.2.1 = h26.2.1 := congrArg Prod.fst (am_z e33)
  have e33v : h32.2.2 = h26.2.2 := congrArg Prod.snd (am_z e33)
  have F38 : ∀ q, q < h.2.1 → ¬ (fun q => q = r ∨ q = f) q → h32.1 q = h.1 q := fun q q0 q1 => (am_ne e33 q (by omega)).trans (F31 q q0 q1)
  refine AQ.of (AS.aastA eL_randomField_214 k35 (by omega) (by omega) k37) ?_
  obtain ⟨h39, e40⟩ : ∃ q, q = am_set h32 t (105, (D 2 + 1), am_Z, am_uR gk (D 2) (some t2)) := ⟨_, rfl⟩
  rw [← e40]
  have k41 := (am_ne e40 f (by omega)).trans k34
  have k42 := am_at e40
  have k43 := (am_ne e40 r (by omega)).trans k36
  have k44 := (am_ne e40 t2 (by omega)).trans k37
  have e40u : h39.2.1 = h32.2.1 := congrArg Prod.fst (am_z e40)
  have e40v : h39.2.2 = h32.2.2 := congrArg Prod.snd (am_z e40)
  have F45 : ∀ q, q < h.2.1 → ¬ (fun q => q = r ∨ q = f) q → h39.1 q = h.1 q := fun q q0 q1 => (am_ne e40 q (by omega)).trans (F38 q q0 q1)
  refine q_blk (lv2 := [(0, vr o), (1, vr bu), (2, vr r), (3, vr f), (4, vi n), (5, vi x), (6, vi y), (7, vr t)]) (st2 := [vr t, vr f]) kL_randomField_215 rfl ?_
  refine q_pr eL_randomField_218 fl_RL_156 (fun q hq => by cases hq; exact Or.inl rfl) (Or.inr ⟨_, rfl⟩) k41 (Nat.le_of_ble_eq_true rfl) (l2 := [none, none, some t, some pa, none]) rfl (fun h46 e47 => ?_)
  have k48 := am_at e47
  have k49 := (am_ne e47 t (by omega)).trans k42
  have k50 := (am_ne e47 r (by omega)).trans k43
  have k51 := (am_ne e47 t2 (by omega)).trans k44
  have e47u : h46.2.1 = h39.2.1 := congrArg Prod.fst (am_z e47)
  have e47v : h46.2.2 = h39.2.2 := congrArg Prod.snd (am_z e47)
  have F52 : ∀ q, q < h.2.1 → ¬ (fun q => q = r ∨ q = f) q → h46.1 q = h.1 q := fun q q0 q1 => (am_ne e47 q (fun c => q1 (Or.inr c))).trans (F45 q q0 q1)
  have K5 : KF h h46 (fun q => q = r ∨ q = f) 2 24 := ⟨F52, ⟨by omega, by omega⟩, by omega, by omega⟩
  have F5 := hI.2.2.1.1.addS hD (by omega) (fun q b n => F52 q b.1.2 (fun z => z.elim b.2.2.1 n)) k48 k49 (fun k k0 k1 => (if_neg (by omega)).trans (hg k k0 k1)) (if_pos rfl) k51 (x := x) (y := y) (v := 1 + z24) ⟨rfl, rfl, rfl⟩ ⟨by omega, by omega⟩ ⟨by omega, by omega⟩
  have I5 := hI.fl K5 (fun q z => z.elim (fun e => Or.inr e) (fun e => Or.inl (Or.inl e))) ⟨_, k50⟩ F5 (hI.2.2.1.2.addS (by omega) d3e ⟨by omega, by omega⟩ ⟨by omega, by omega⟩ ⟨by omega, by omega⟩)
  refine q_blk (lv2 := [(0, vr o), (1, vr bu), (2, vr r), (3, vr f), (4, vi n), (5, vi x), (6, vi y), (7, vr t)]) (st2 := [vr bu, vr o]) kL_randomField_221 rfl ?_
  refine AQ.of (AS.ldcS (i := 21) (by decide) (by decide) eL_randomField_223) ?_
  refine q_blk (lv2 := [(0, vr o), (1, vr bu), (2, vr r), (3, vr f), (4, vi n), (5, vi x), (6, vi y), (7, vr t)]) (st2 := [vr f, vr t, vr (w.2 21), vr bu, vr o]) kL_randomField_225 rfl ?_
  refine q_gr eL_randomField_228 fl_RL_156 (Or.inr ⟨_, rfl⟩) k48 rfl ?_
  refine q_al eL_randomField_231 k49 (by decide) ?_
  refine q_blk (lv2 := [(0, vr o), (1, vr bu), (2, vr r), (3, vr f), (4, vi n), (5, vi x), (6, vi y), (7, vr t)]) (st2 := [vi ((D 2 + 1) - 1), vr t, vr (w.2 21), vr bu, vr o]) kL_randomField_232 rfl ?_
  refine q_aa eL_randomField_234 k49 (by decide) (by omega) (by omega) (by show (if D 2 + 1 - 1 = D 2 then _ else _) = _; rw [if_pos (by omega)]) ?_
  have hf53 : ∀ j9 : Int, 0 ≤ j9 → j9 < 3 → 0 ≤ (am_uI (am_uI (am_uI am_Z 0 x) 1 y) 2 (1 + z24)) j9 ∧ (am_uI (am_uI (am_uI am_Z 0 x) 1 y) 2 (1 + z24)) j9 < 100 := fun j9 j90 j91 => by unfold am_uI; split <;> (try split) <;> (try split) <;> omega
  refine AQ.callSv (av := [vr o, vr bu, vr (w.2 21), vr t2]) (st := []) (c_L_writeNumbers I5.1 k51 (by omega) (fun z => by omega) (by omega) ⟨by omega, by omega⟩ hf53 (I5.2.2.2.1.2.1.st (i := 21) I5.2.2.2.1.1 (by decide)) (fun z => by omega) (fun z => by omega) (by (try simp only [List.length_append]); omega) I5.2.2.2.1 hbo) lk_RL_146 (by omega) rfl rfl (Nat.le_of_ble_eq_true rfl) eL_randomField_235 (fun h56 e55 => ?_)
  obtain ⟨g57T, g57k⟩ := e55
  have g57i := I5.wr g57k g57T
  obtain ⟨-, ⟨g57a, g57b⟩, g57y, g57z⟩ := id g57k
  have hf53l : (gx_nums (am_uI (am_uI (am_uI am_Z 0 x) 1 y) 2 (1 + z24)) (3 : Int).toNat).length ≤ 3 * 3 := gx_nums_l (n := 3) hf53
  refine q_blk (lv2 := [(0, vr o), (1, vr bu), (2, vr r), (3, vr f), (4, vi n), (5, vi x), (6, vi y), (7, vr t)]) (st2 := [vr bu, vr o]) kL_randomField_238 rfl ?_
  refine AQ.of (AS.ldcS (i := 20) (by decide) (by decide) eL_randomField_240) ?_
  refine AQ.callSv (av := [vr o, vr bu, vr (w.2 20)]) (st := []) (c_L_write g57i.1 (g57i.2.2.2.1.2.1.st (i := 20) g57i.2.2.2.1.1 (by decide)) (fun z => by omega) (fun z => by omega) (by (try simp only [List.length_append]); omega)) lk_RL_120 (by omega) rfl rfl (Nat.le_of_ble_eq_true rfl) eL_randomField_242 (fun h60 e59 => ?_)
  obtain ⟨g61T, g61k⟩ := e59
  have g61i := g57i.wr g61k g61T
  obtain ⟨-, ⟨g61a, g61b⟩, g61y, g61z⟩ := id g61k
  refine q_sub (lv2 := [(0, vr o), (1, vr bu), (2, vr r), (3, vr f), (4, vi n)]) [0, 1, 2, 3, 4] rfl ?_
  exact kk (am_uI (am_uI (am_uI am_Z 0 x) 1 y) 2 (1 + z24)) h60 ⟨rfl, rfl, by show 1 ≤ 1 + _; omega, by show 1 + _ ≤ (99 : Int); omega⟩ g61i (by omega) ⟨by omega, by omega⟩

set_option maxRecDepth 4000 in
set_option maxHeartbeats 4000000 in
theorem rg_P1 {w : am_w} {d : Nat} {Q : RV → AH → Prop} {h : AH} {o bu r bs : Nat} {D0 cm : Int → Int} {sc : Nat} {L : GL} {le : Int} {Hs : List GE} {Z : List Int} {f sa pa : Nat} {gs gp : Int → Option Nat} {D : Int → Int} {n : Int} (hd : 80 ≤ d) (hI : RFS w o bu r f sa pa bs gs gp none h D D0 cm sc L le Hs Z) (kk0 : ∀ (h1 : AH), RFS w o bu r f sa pa bs gs gp none h1 D D0 cm sc L le Hs Z → (h1.2.1 ≤ h.2.1 + 0 ∧ h1.2.2 ≤ h.2.2 + 0) → AQ w m_L_randomField d 563 [(0, vr o), (1, vr bu), (2, vr r), (3, vr f), (4, vi n)] [] h1 Q) (kk1 : ∀ (x y : Int) (h1 : AH), (0 ≤ x ∧ x ≤ D 0) → (0 ≤ y ∧ y ≤ D 1) → ¬ gm_oc D x y → RFS w o bu r f sa pa bs gs gp none h1 D D0 cm sc L le Hs Z → (h1.2.1 ≤ h.2.1 + 0 ∧ h1.2.2 ≤ h.2.2 + 0) → AQ w m_L_randomField d 323 [(0, vr o), (1, vr bu), (2, vr r), (3, vr f), (4, vi n), (5, vi x), (6, vi y)] [] h1 Q)  : AQ w m_L_randomField d 263 [(0, vr o), (1, vr bu), (2, vr r), (3, vr f), (4, vi n)] [] h Q := by
  have hD := hI.2.2.1.2.1
  have d0 := hD.1
  have d1 := hD.2.1
  have d2 := hD.2.2.1
  have d3 := hD.2.2.2.1
  have tb := hI.1.top
  have rr := hI.2.1.2.2.1
  have rb := hI.2.1.2.1
  have hbo := hI.2.2.2.2
  refine q_blk (lv2 := [(0, vr o), (1, vr bu), (2, vr r), (3, vr f), (4, vi n)]) (st2 := [vr f, vr r]) kL_randomField_263 rfl ?_
  obtain ⟨⟨bf1, bs1, bp1⟩, C01, ⟨fz11, C11⟩, ⟨fz21, C21⟩, hst, hsh, hij⟩ := id hI.2.2.1.1
  have bf1x0 := bf1.1.1
  have bf1x1 := bf1.1.2
  have bf1x2 := bf1.2.1
  have bf1x3 := bf1.2.2.1
  have bs1x0 := bs1.1.1
  have bs1x1 := bs1.1.2
  have bs1x2 := bs1.2.1
  have bs1x3 := bs1.2.2.1
  have bp1x0 := bp1.1.1
  have bp1x1 := bp1.1.2
  have bp1x2 := bp1.2.1
  have bp1x3 := bp1.2.2.1
  refine q_gi eL_randomField_265 fl_RL_137 (Or.inl rfl) C01 (z := (D 0)) rfl ?_
  refine q_blk (lv2 := [(0, vr o), (1, vr bu), (2, vr r), (3, vr f), (4, vi n)]) (st2 := [vi ((D 0) + 1), vr r]) kL_randomField_268 rfl ?_
  refine AQ.callVi (av := [vi ((D 0) + 1)]) (st := []) (c_X11_below hI.2.1.1 hI.2.1.2.2.1 (b := ((D 0) + 1)) (by omega) (by omega)) lk_RL_132 (by omega) rfl rfl hI.2.1.1.ob ⟨_, rfl, rfl⟩ (Nat.le_of_ble_eq_true rfl) eL_randomField_270 (fun z2 h4 e3 => ?_)
  obtain ⟨⟨z2a, z2b⟩, g5r, g5k⟩ := e3
  have g5i := hI.kr g5k g5r
  obtain ⟨-, ⟨g5a, g5b⟩, g5y, g5z⟩ := id g5k
  refine q_blk (lv2 := [(0, vr o), (1, vr bu), (2, vr r), (3, vr f), (4, vi n), (5, vi z2)]) (st2 := [vr f, vr r]) kL_randomField_273 rfl ?_
  obtain ⟨⟨bf6, bs6, bp6⟩, C06, ⟨fz16, C16⟩, ⟨fz26, C26⟩, hst, hsh, hij⟩ := id g5i.2.2.1.1
  have bf6x0 := bf6.1.1
  have bf6x1 := bf6.1.2
  have bf6x2 := bf6.2.1
  have bf6x3 := bf6.2.2.1
  have bs6x0 := bs6.1.1
  have bs6x1 := bs6.1.2
  have bs6x2 := bs6.2.1
  have bs6x3 := bs6.2.2.1
  have bp6x0 := bp6.1.1
  have bp6x1 := bp6.1.2
  have bp6x2 := bp6.2.1
  have bp6x3 := bp6.2.2.1
  refine q_gi eL_randomField_277 fl_RL_141 (Or.inl rfl) C06 (z := (D 1)) rfl ?_
  refine q_blk (lv2 := [(0, vr o), (1, vr bu), (2, vr r), (3, vr f), (4, vi n), (5, vi z2)]) (st2 := [vi ((D 1) + 1), vr r]) kL_randomField_280 rfl ?_
  refine AQ.callVi (av := [vi ((D 1) + 1)]) (st := []) (c_X11_below g5i.2.1.1 g5i.2.1.2.2.1 (b := ((D 1) + 1)) (by omega) (by omega)) lk_RL_132 (by omega) rfl rfl g5i.2.1.1.ob ⟨_, rfl, rfl⟩ (Nat.le_of_ble_eq_true rfl) eL_randomField_282 (fun z7 h9 e8 => ?_)
  obtain ⟨⟨z7a, z7b⟩, g10r, g10k⟩ := e8
  have g10i := g5i.kr g10k g10r
  obtain ⟨-, ⟨g10a, g10b⟩, g10y, g10z⟩ := id g10k
  refine q_blk (lv2 := [(0, vr o), (1, vr bu), (2, vr r), (3, vr f), (4, vi n), (5, vi z2), (6, vi z7)]) (st2 := [vi z7, vi z2, vr f]) kL_randomField_285 rfl ?_
  refine q_Vi (av := [vi z2, vi z7]) (st := []) (c_X9_isStone g10i.2.2.1.1 g10i.2.2.1.2.1  (x := z2) (y := z7) ⟨by omega, by omega⟩ ⟨by omega, by omega⟩) lk_RL_152 (by omega) rfl rfl g10i.2.2.1.1.ob ⟨_, rfl, rfl⟩ (Nat.le_of_ble_eq_true rfl) eL_randomField_292 (fun z11 e12 => ?_)
  rcases e12 with ⟨rfl, e12⟩ | ⟨rfl, e12⟩
  · skip
    refine AQ.of (AS.if_ne_t (tgt := 563) eL_randomField_295 (by decide) ⟨by decide, by decide⟩ (by decide)) ?_
    refine q_sub (lv2 := [(0, vr o), (1, vr bu), (2, vr r), (3, vr f), (4, vi n)]) [0, 1, 2, 3, 4] rfl ?_
    exact kk0 h9 g10i ⟨by omega, by omega⟩
  · skip
    refine AQ.of (AS.if_ne_f eL_randomField_295 ⟨by decide, by decide⟩ (by decide) (by decide)) ?_
    refine q_blk (lv2 := [(0, vr o), (1, vr bu), (2, vr r), (3, vr f), (4, vi n), (5, vi z2), (6, vi z7)]) (st2 := [vi z7, vi z2, vr f]) kL_randomField_298 rfl ?_
    refine q_Vi (av := [vi z2, vi z7]) (st := []) (c_X9_isCorner g10i.2.2.1.1 g10i.2.2.1.2.1  (x := z2) (y := z7) ⟨by omega, by omega⟩ ⟨by omega, by omega⟩) lk_RL_163 (by omega) rfl rfl g10i.2.2.1.1.ob ⟨_, rfl, rfl⟩ (Nat.le_of_ble_eq_true rfl) eL_randomField_303 (fun z13 e14 => ?_)
    rcases e14 with ⟨rfl, e14⟩ | ⟨rfl, e14⟩
    · skip
      refine AQ.of (AS.if_ne_t (tgt := 563) eL_randomField_306 (by decide) ⟨by decide, by decide⟩ (by decide)) ?_
      refine q_sub (lv2 := [(0, vr o), (1, vr bu), (2, vr r), (3, vr f), (4, vi n)]) [0, 1, 2, 3, 4] rfl ?_
      exact kk0 h9 g10i ⟨by omega, by omega⟩
    · skip
      refine AQ.of (AS.if_ne_f eL_randomField_306 ⟨by decide, by decide⟩ (by decide) (by decide)) ?_
      refine q_blk (lv2 := [(0, vr o), (1, vr bu), (2, vr r), (3, vr f), (4, vi n), (5, vi z2), (6, vi z7)]) (st2 := [vi z7, vi z2, vr f]) kL_randomField_309 rfl ?_
      refine q_Vi (av := [vi z2, vi z7]) (st := []) (c_X9_isOnSide g10i.2.2.1.1 g10i.2.2.1.2.1 g10i.2.2.1.2.2.1.ve (x := z2) (y := z7) ⟨by omega, by omega⟩ ⟨by omega, by omega⟩) lk_RL_166 (by omega) rfl rfl g10i.2.2.1.1.ob ⟨_, rfl, rfl⟩ (Nat.le_of_ble_eq_true rfl) eL_randomField_314 (fun z15 e16 => ?_)
      rcases e16 with ⟨rfl, e16⟩ | ⟨rfl, e16⟩
      · skip
        refine AQ.of (AS.if_eq_f eL_randomField_317 ⟨by decide, by decide⟩ (by decide) (by decide)) ?_
        refine q_goto (tgt := 563) eL_randomField_320 (by decide) ?_
        refine q_sub (lv2 := [(0, vr o), (1, vr bu), (2, vr r), (3, vr f), (4, vi n)]) [0, 1, 2, 3, 4] rfl ?_
        exact kk0 h9 g10i ⟨by omega, by omega⟩
      · skip
        refine AQ.of (AS.if_eq_t (tgt := 323) eL_randomField_317 (by decide) ⟨by decide, by decide⟩ (by decide)) ?_
        exact kk1 z2 z7 h9 ⟨by omega, by omega⟩ ⟨by omega, by omega⟩ (fun z => z.elim (fun z => z.elim e12 e14) e16) g10i ⟨by omega, by omega⟩

set_option maxRecDepth 4000 in
set_option maxHeartbeats 4000000 in
theorem rg_P2 {w : am_w} {d : Nat} {Q : RV → AH → Prop} {h : AH} {o bu r bs : Nat} {D0 cm : Int → Int} {sc : Nat} {L : GL} {le : Int} {Hs : List GE} {Z : List Int} {f sa pa : Nat} {gs gp : Int → Option Nat} {D : Int → Int} {n x y : Int} (hd : 80 ≤ d) (hI : RFS w o bu r f sa pa bs gs gp none h D D0 cm sc L le Hs Z) (d3e : D 3 < 6) (hxx : 0 ≤ x ∧ x ≤ D 0) (hyy : 0 ≤ y ∧ y ≤ D 1) (hoc : ¬ gm_oc D x y) (kk : ∀ {pa' : Nat} {gp' : Int → Option Nat} (ow : Int) (h1 : AH), (0 ≤ ow ∧ ow ≤ 3) → RFS w o bu r f sa pa' bs gs gp' none h1 (gm_stP D ow x y) D0 cm sc L le Hs Z → (h1.2.1 ≤ h.2.1 + 4 ∧ h1.2.2 ≤ h.2.2 + 11) → AQ w m_L_randomField d 346 [(0, vr o), (1, vr bu), (2, vr r), (3, vr f), (4, vi n), (5, vi x), (6, vi y), (7, vi (D 3)), (8, vi 0)] [] h1 Q)  : AQ w m_L_randomField d 323 [(0, vr o), (1, vr bu), (2, vr r), (3, vr f), (4, vi n), (5, vi x), (6, vi y)] [] h Q := by
  have hD := hI.2.2.1.2.1
  have d0 := hD.1
  have d1 := hD.2.1
  have d2 := hD.2.2.1
  have d3 := hD.2.2.2.1
  have tb := hI.1.top
  have rr := hI.2.1.2.2.1
  have rb := hI.2.1.2.1
  have hbo := hI.2.2.2.2
  refine q_blk (lv2 := [(0, vr o), (1, vr bu), (2, vr r), (3, vr f), (4, vi n), (5, vi x), (6, vi y)]) (st2 := [vr f]) kL_randomField_323 rfl ?_
  obtain ⟨⟨bf1, bs1, bp1⟩, C01, ⟨fz11, C11⟩, ⟨fz21, C21⟩, hst, hsh, hij⟩ := id hI.2.2.1.1
  have bf1x0 := bf1.1.1
  have bf1x1 := bf1.1.2
  have bf1x2 := bf1.2.1
  have bf1x3 := bf1.2.2.1
  have bs1x0 := bs1.1.1
  have bs1x1 := bs1.1.2
  have bs1x2 := bs1.2.1
  have bs1x3 := bs1.2.2.1
  have bp1x0 := bp1.1.1
  have bp1x1 := bp1.1.2
  have bp1x2 := bp1.2.1
  have bp1x3 := bp1.2.2.1
  refine q_gr eL_randomField_324 fl_RL_169 (Or.inr ⟨_, rfl⟩) C01 rfl ?_
  refine q_al eL_randomField_327 C21 (by decide) ?_
  refine q_blk (lv2 := [(0, vr o), (1, vr bu), (2, vr r), (3, vr f), (4, vi n), (5, vi x), (6, vi y), (7, vi (D 3))]) (st2 := [vi 4, vr r, vr f]) kL_randomField_328 rfl ?_
  refine AQ.callVi (av := [vi 4]) (st := [vr f]) (c_X11_below hI.2.1.1 hI.2.1.2.2.1 (b := 4) (by omega) (by omega)) lk_RL_132 (by omega) rfl rfl hI.2.1.1.ob ⟨_, rfl, rfl⟩ (Nat.le_of_ble_eq_true rfl) eL_randomField_333 (fun z2 h4 e3 => ?_)
  obtain ⟨⟨z2a, z2b⟩, g5r, g5k⟩ := e3
  have g5i := hI.kr g5k g5r
  obtain ⟨-, ⟨g5a, g5b⟩, g5y, g5z⟩ := id g5k
  refine q_blk (lv2 := [(0, vr o), (1, vr bu), (2, vr r), (3, vr f), (4, vi n), (5, vi x), (6, vi y), (7, vi (D 3))]) (st2 := [vi y, vi x, vi z2, vr f]) kL_randomField_336 rfl ?_
  refine AQ.callVv (av := [vi z2, vi x, vi y]) (st := []) (c_X9_add g5i.2.2.1.1 g5i.2.2.1.2.1 (by omega) (o := z2) (x := x) (y := y) ⟨by omega, by omega⟩ ⟨by omega, by omega⟩ (fun q b => b.1.2)) lk_RL_173 (by omega) rfl rfl g5i.2.2.1.1.ob ⟨_, rfl, rfl⟩ (Nat.le_of_ble_eq_true rfl) eL_randomField_340 (fun h8 e7 => ?_)
  obtain ⟨⟨g9t, g9gk, g9z, g9F, g9p, g9q, g9w⟩, g9k⟩ := e7
  have g9i := g5i.fl g9k (fun q z => Or.inl (Or.inl z)) (g5i.2.1.1.mv (g9k.1 r g5i.2.1.2.2.1 (fun z => g5i.2.2.1.1.1.1.2.2.1 z.symm))) g9F (g5i.2.2.1.2.stP (by omega) ⟨by omega, by omega⟩ ⟨by omega, by omega⟩ ⟨by omega, by omega⟩ (fun z => hoc (Or.inl z)))
  obtain ⟨-, ⟨g9a, g9b⟩, g9c, g9d⟩ := id g9k
  refine q_blk (lv2 := [(0, vr o), (1, vr bu), (2, vr r), (3, vr f), (4, vi n), (5, vi x), (6, vi y), (7, vi (D 3)), (8, vi 0)]) (st2 := []) kL_randomField_343 rfl ?_
  exact kk z2 h8 ⟨by omega, by omega⟩ g9i ⟨by omega, by omega⟩

set_option maxRecDepth 4000 in
set_option maxHeartbeats 8000000 in
theorem rg_P3 {w : am_w} {d : Nat} {Q : RV → AH → Prop} {h : AH} {o bu r bs : Nat} {D0 cm : Int → Int} {sc : Nat} {L : GL} {le : Int} {Hs : List GE} {Z : List Int} {f sa pa : Nat} {gs gp : Int → Option Nat} {D : Int → Int} {n x y p k : Int} (hd : 80 ≤ d) (hI : RFS w o bu r f sa pa bs gs gp none h D D0 cm sc L le Hs Z) (hp : 0 ≤ p ∧ p < D 3) (kk : ∀ (x' y' : Int) {E : Int → Int} (h1 : AH), RFS w o bu r f sa pa bs gs gp none h1 E D0 cm sc L le Hs Z → (E = D ∨ ((0 ≤ x' ∧ x' ≤ D 0) ∧ (0 ≤ y' ∧ y' ≤ D 1) ∧ gm_rC D p x' y' 0 ∧ E = gm_adC D p x' y')) → (h1.2.1 ≤ h.2.1 + 1 ∧ h1.2.2 ≤ h.2.2 + 12) → AQ w m_L_randomField d 432 [(0, vr o), (1, vr bu), (2, vr r), (3, vr f), (4, vi n), (5, vi x'), (6, vi y'), (7, vi p), (8, vi k)] [] h1 Q)  : AQ w m_L_randomField d 353 [(0, vr o), (1, vr bu), (2, vr r), (3, vr f), (4, vi n), (5, vi x), (6, vi y), (7, vi p), (8, vi k)] [] h Q := by
  have hD := hI.2.2.1.2.1
  have d0 := hD.1
  have d1 := hD.2.1
  have d2 := hD.2.2.1
  have d3 := hD.2.2.2.1
  have tb := hI.1.top
  have rr := hI.2.1.2.2.1
  have rb := hI.2.1.2.1
  have hbo := hI.2.2.2.2
  obtain ⟨op1, ⟨np1, np2⟩, cp1, xy1⟩ := hD.2.2.2.2.2 p (by omega) (by omega)
  have vcp := hD.vc (p := p) (by omega) (by omega)
  obtain ⟨shq, hsq, -⟩ := hI.2.2.1.1.2.2.2.2.2.1 p (by omega) (by omega)
  refine q_blk (lv2 := [(0, vr o), (1, vr bu), (2, vr r), (3, vr f), (4, vi n), (5, vi x), (6, vi y), (7, vi p), (8, vi k)]) (st2 := [vr f, vr r]) kL_randomField_353 rfl ?_
  obtain ⟨⟨bf1, bs1, bp1⟩, C01, ⟨fz11, C11⟩, ⟨fz21, C21⟩, hst, hsh, hij⟩ := id hI.2.2.1.1
  have bf1x0 := bf1.1.1
  have bf1x1 := bf1.1.2
  have bf1x2 := bf1.2.1
  have bf1x3 := bf1.2.2.1
  have bs1x0 := bs1.1.1
  have bs1x1 := bs1.1.2
  have bs1x2 := bs1.2.1
  have bs1x3 := bs1.2.2.1
  have bp1x0 := bp1.1.1
  have bp1x1 := bp1.1.2
  have bp1x2 := bp1.2.1
  have bp1x3 := bp1.2.2.1
  refine q_gi eL_randomField_355 fl_RL_137 (Or.inl rfl) C01 (z := (D 0)) rfl ?_
  refine q_blk (lv2 := [(0, vr o), (1, vr bu), (2, vr r), (3, vr f), (4, vi n), (5, vi x), (6, vi y), (7, vi p), (8, vi k)]) (st2 := [vi ((D 0) + 1), vr r]) kL_randomField_358 rfl ?_
  refine AQ.callVi (av := [vi ((D 0) + 1)]) (st := []) (c_X11_below hI.2.1.1 hI.2.1.2.2.1 (b := ((D 0) + 1)) (by omega) (by omega)) lk_RL_132 (by omega) rfl rfl hI.2.1.1.ob ⟨_, rfl, rfl⟩ (Nat.le_of_ble_eq_true rfl) eL_randomField_360 (fun z2 h4 e3 => ?_)
  obtain ⟨⟨z2a, z2b⟩, g5r, g5k⟩ := e3
  have g5i := hI.kr g5k g5r
  obtain ⟨-, ⟨g5a, g5b⟩, g5y, g5z⟩ := id g5k
  refine q_blk (lv2 := [(0, vr o), (1, vr bu), (2, vr r), (3, vr f), (4, vi n), (5, vi z2), (6, vi y), (7, vi p), (8, vi k)]) (st2 := [vr f, vr r]) kL_randomField_363 rfl ?_
  obtain ⟨⟨bf6, bs6, bp6⟩, C06, ⟨fz16, C16⟩, ⟨fz26, C26⟩, hst, hsh, hij⟩ := id g5i.2.2.1.1
  have bf6x0 := bf6.1.1
  have bf6x1 := bf6.1.2
  have bf6x2 := bf6.2.1
  have bf6x3 := bf6.2.2.1
  have bs6x0 := bs6.1.1
  have bs6x1 := bs6.1.2
  have bs6x2 := bs6.2.1
  have bs6x3 := bs6.2.2.1
  have bp6x0 := bp6.1.1
  have bp6x1 := bp6.1.2
  have bp6x2 := bp6.2.1
  have bp6x3 := bp6.2.2.1
  refine q_gi eL_randomField_367 fl_RL_141 (Or.inl rfl) C06 (z := (D 1)) rfl ?_
  refine q_blk (lv2 := [(0, vr o), (1, vr bu), (2, vr r), (3, vr f), (4, vi n), (5, vi z2), (6, vi y), (7, vi p), (8, vi k)]) (st2 := [vi ((D 1) + 1), vr r]) kL_randomField_370 rfl ?_
  refine AQ.callVi (av := [vi ((D 1) + 1)]) (st := []) (c_X11_below g5i.2.1.1 g5i.2.1.2.2.1 (b := ((D 1) + 1)) (by omega) (by omega)) lk_RL_132 (by omega) rfl rfl g5i.2.1.1.ob ⟨_, rfl, rfl⟩ (Nat.le_of_ble_eq_true rfl) eL_randomField_372 (fun z7 h9 e8 => ?_)
  obtain ⟨⟨z7a, z7b⟩, g10r, g10k⟩ := e8
  have g10i := g5i.kr g10k g10r
  obtain ⟨-, ⟨g10a, g10b⟩, g10y, g10z⟩ := id g10k
  refine q_blk (lv2 := [(0, vr o), (1, vr bu), (2, vr r), (3, vr f), (4, vi n), (5, vi z2), (6, vi z7), (7, vi p), (8, vi k)]) (st2 := [vi z7, vi z2, vi p, vr f]) kL_randomField_375 rfl ?_
  refine q_Vi (av := [vi p, vi z2, vi z7]) (st := []) (c_X9_corner g10i.2.2.1.1 g10i.2.2.1.2.1 g10i.2.2.1.2.2.1 (p := p) (by omega) (by omega) (x := z2) (y := z7) ⟨by omega, by omega⟩ ⟨by omega, by omega⟩) lk_RL_177 (by omega) rfl rfl g10i.2.2.1.1.ob ⟨_, rfl, rfl⟩ (Nat.le_of_ble_eq_true rfl) eL_randomField_384 (fun z11 e12 => ?_)
  have z11r := gm_rC_0r e12
  refine AQ.if_ne (tgt := 432) eL_randomField_387 (by decide) (by first | assumption | exact ⟨by omega, by omega⟩ | exact ⟨by decide, by decide⟩) (fun br13 => ?_) (fun br13 => ?_)
  · skip
    exact kk z2 z7 h9 g10i (Or.inl rfl) ⟨by omega, by omega⟩
  · skip
    have nn12 : pN D p < 12 := by rcases e12 with ⟨a, b⟩ | ⟨a, ⟨b, c⟩ | ⟨b, c⟩⟩ <;> omega
    refine q_blk (lv2 := [(0, vr o), (1, vr bu), (2, vr r), (3, vr f), (4, vi n), (5, vi z2), (6, vi z7), (7, vi p), (8, vi k)]) (st2 := [vr f]) kL_randomField_390 rfl ?_
    obtain ⟨⟨bf14, bs14, bp14⟩, C014, ⟨fz114, C114⟩, ⟨fz214, C214⟩, hst, hsh, hij⟩ := id g10i.2.2.1.1
    have bf14x0 := bf14.1.1
    have bf14x1 := bf14.1.2
    have bf14x2 := bf14.2.1
    have bf14x3 := bf14.2.2.1
    have bs14x0 := bs14.1.1
    have bs14x1 := bs14.1.2
    have bs14x2 := bs14.2.1
    have bs14x3 := bs14.2.2.1
    have bp14x0 := bp14.1.1
    have bp14x1 := bp14.1.2
    have bp14x2 := bp14.2.1
    have bp14x3 := bp14.2.2.1
    refine q_gr eL_randomField_391 fl_RL_169 (Or.inr ⟨_, rfl⟩) C014 rfl ?_
    refine q_blk (lv2 := [(0, vr o), (1, vr bu), (2, vr r), (3, vr f), (4, vi n), (5, vi z2), (6, vi z7), (7, vi p), (8, vi k)]) (st2 := [vi p, vr pa]) kL_randomField_394 rfl ?_
    refine q_aa eL_randomField_396 C214 (by decide) (by omega) (by omega) hsq ?_
    refine q_blk (lv2 := [(0, vr o), (1, vr bu), (2, vr r), (3, vr f), (4, vi n), (5, vi z2), (6, vi z7), (7, vi p), (8, vi k)]) (st2 := [vr f, vr shq]) kL_randomField_397 rfl ?_
    refine q_gr eL_randomField_398 fl_RL_169 (Or.inr ⟨_, rfl⟩) C014 rfl ?_
    refine q_blk (lv2 := [(0, vr o), (1, vr bu), (2, vr r), (3, vr f), (4, vi n), (5, vi z2), (6, vi z7), (7, vi p), (8, vi k)]) (st2 := [vi p, vr pa, vr shq]) kL_randomField_401 rfl ?_
    refine q_aa eL_randomField_403 C214 (by decide) (by omega) (by omega) hsq ?_
    obtain ⟨q15, g15, l15⟩ := hsh p (by omega) (by omega)
    rw [hsq] at g15; obtain rfl := Option.some.inj g15
    obtain ⟨ca15, cf15, ⟨w15, u15⟩, c15, d15, e15⟩ := id l15
    refine q_gr eL_randomField_404 fl_RL_178 (Or.inr ⟨_, rfl⟩) c15 rfl ?_
    refine q_blk (lv2 := [(0, vr o), (1, vr bu), (2, vr r), (3, vr f), (4, vi n), (5, vi z2), (6, vi z7), (7, vi p), (8, vi k)]) (st2 := [vr f, vr ca15, vr shq]) kL_randomField_407 rfl ?_
    refine q_gr eL_randomField_408 fl_RL_169 (Or.inr ⟨_, rfl⟩) C014 rfl ?_
    refine q_blk (lv2 := [(0, vr o), (1, vr bu), (2, vr r), (3, vr f), (4, vi n), (5, vi z2), (6, vi z7), (7, vi p), (8, vi k)]) (st2 := [vi p, vr pa, vr ca15, vr shq]) kL_randomField_411 rfl ?_
    refine q_aa eL_randomField_413 C214 (by decide) (by omega) (by omega) hsq ?_
    refine q_gr eL_randomField_414 fl_RL_178 (Or.inr ⟨_, rfl⟩) c15 rfl ?_
    refine q_al eL_randomField_417 d15 (by decide) ?_
    refine q_blk (lv2 := [(0, vr o), (1, vr bu), (2, vr r), (3, vr f), (4, vi n), (5, vi z2), (6, vi z7), (7, vi p), (8, vi k)]) (st2 := [vi ((100 * z2) + z7), vi (pN D p), vr ca15, vr shq]) kL_randomField_418 rfl ?_
    refine AQ.callSr (av := [vr ca15, vi (pN D p), vi ((100 * z2) + z7)]) (st := [vr shq]) (c_L_put_ d15 u15.1.2 ⟨by omega, by omega⟩ ⟨by omega, by omega⟩ (by omega)) lk_RL_183 (by omega) rfl rfl (Nat.le_of_ble_eq_true rfl) eL_randomField_426 (fun z16 h18 e17 => ?_)
    obtain ⟨⟨g19a, g19b⟩, ⟨g19n, g19c, g19e⟩, g19k⟩ := e17
    obtain ⟨-, ⟨g19u, g19v⟩, g19y, g19z⟩ := id g19k
    have g19l := w15.1.2
    have g19q := (g19k.1 shq g19l id).trans c15
    refine q_pr eL_randomField_429 fl_RL_178 (fun q hq => by cases hq; exact Or.inl rfl) (Or.inr ⟨_, rfl⟩) g19q (Nat.le_of_ble_eq_true rfl) (l2 := [none, none, some z16]) rfl (fun h20 e21 => ?_)
    have e21u : h20.2.1 = h18.2.1 := congrArg Prod.fst (am_z e21)
    have e21v : h20.2.2 = h18.2.2 := congrArg Prod.snd (am_z e21)
    have e21F : ∀ q, q < h9.2.1 → q ≠ shq → h20.1 q = h9.1 q := (fun q q0 q1 => (am_ne e21 q q1).trans (g19k.1 q q0 id))
    have e21K : KF h9 h20 (fun q => q = shq) 1 12 := ⟨fun q q0 q1 => e21F q q0 q1, ⟨by omega, by omega⟩, by omega, by omega⟩
    have e21S := FLD.setP g10i.2.2.1.1 hD (fun q b => b.1.2) (p := p) (n := (pN D p + 1)) (c := pC D p) (xs := (gm_in (pN D p) z2 (pX D p))) (ys := (gm_in (pN D p) z7 (pY D p))) (by omega) (by omega) hsq e21F (by omega) (am_at e21) ((am_ne e21 z16 (by omega)).trans g19c) (Or.inr ⟨by omega, by omega⟩) (fun j j0 j1 => (g19e j j0 j1).trans (gm_in_xy e15 (by omega) (by omega) j0 j1))
    have e21M : RFS w o bu r f sa pa bs gs gp none h20 (gm_adC D p z2 z7) D0 cm sc L le Hs Z := g10i.fl e21K (fun q z => Or.inl (Or.inr ⟨p, by omega, by omega, by rw [show q = shq from z]; exact hsq⟩)) (g10i.2.1.1.mv (e21K.1 r g10i.2.1.2.2.1 (fun z => w15.2.2.1 z.symm))) e21S (g10i.2.2.1.2.adC (by omega) (by omega) ⟨by omega, by omega⟩ ⟨by omega, by omega⟩ (by have q := e12; rw [show z11 = 0 by omega] at q; exact q))
    exact kk z2 z7 h20 e21M (Or.inr ⟨⟨by omega, by omega⟩, ⟨by omega, by omega⟩, (by have q := e12; rw [show z11 = 0 by omega] at q; exact q), rfl⟩) ⟨by omega, by omega⟩

set_option maxRecDepth 4000 in
set_option maxHeartbeats 4000000 in
theorem rg_P4 {w : am_w} {d : Nat} {Q : RV → AH → Prop} {h : AH} {o bu r bs : Nat} {D0 cm : Int → Int} {sc : Nat} {L : GL} {le : Int} {Hs : List GE} {Z : List Int} {f sa pa : Nat} {gs gp : Int → Option Nat} {D : Int → Int} {n x y p k : Int} (hd : 80 ≤ d) (hI : RFS w o bu r f sa pa bs gs gp none h D D0 cm sc L le Hs Z) (hp : 0 ≤ p ∧ p < D 3) (kk0 : ∀ {pa' : Nat} {gp' : Int → Option Nat} (h1 : AH), RFS w o bu r f sa pa' bs gs gp' none h1 (gm_drP D p) D0 cm sc L le Hs Z → (h1.2.1 ≤ h.2.1 + 1 ∧ h1.2.2 ≤ h.2.2 + 7) → AQ w m_L_randomField d 563 [(0, vr o), (1, vr bu), (2, vr r), (3, vr f), (4, vi n)] [] h1 Q) (kk1 : gm_rL D p 0 → AQ w m_L_randomField d 456 [(0, vr o), (1, vr bu), (2, vr r), (3, vr f), (4, vi n), (5, vi x), (6, vi y), (7, vi p), (8, vi k)] [] h Q)  : AQ w m_L_randomField d 438 [(0, vr o), (1, vr bu), (2, vr r), (3, vr f), (4, vi n), (5, vi x), (6, vi y), (7, vi p), (8, vi k)] [] h Q := by
  have hD := hI.2.2.1.2.1
  have d0 := hD.1
  have d1 := hD.2.1
  have d2 := hD.2.2.1
  have d3 := hD.2.2.2.1
  have tb := hI.1.top
  have rr := hI.2.1.2.2.1
  have rb := hI.2.1.2.1
  have hbo := hI.2.2.2.2
  refine q_blk (lv2 := [(0, vr o), (1, vr bu), (2, vr r), (3, vr f), (4, vi n), (5, vi x), (6, vi y), (7, vi p), (8, vi k)]) (st2 := [vi p, vr f]) kL_randomField_438 rfl ?_
  refine q_Vi (av := [vi p]) (st := []) (c_X9_close hI.2.2.1.1 hI.2.2.1.2.1 hI.2.2.1.2.2.1 (p := p) (by omega) (by omega) ) lk_RL_186 (by omega) rfl rfl hI.2.2.1.1.ob ⟨_, rfl, rfl⟩ (Nat.le_of_ble_eq_true rfl) eL_randomField_441 (fun z1 e2 => ?_)
  have z1r := gm_rL_0r e2
  refine AQ.if_eq (tgt := 456) eL_randomField_444 (by decide) (by first | assumption | exact ⟨by omega, by omega⟩ | exact ⟨by decide, by decide⟩) (fun br3 => ?_) (fun br3 => ?_)
  · skip
    exact kk1 (by have q := e2; rw [show z1 = 0 by omega] at q; exact q)
  · skip
    refine q_blk (lv2 := [(0, vr o), (1, vr bu), (2, vr r), (3, vr f), (4, vi n), (5, vi x), (6, vi y), (7, vi p), (8, vi k)]) (st2 := [vi p, vr f]) kL_randomField_447 rfl ?_
    refine AQ.callVv (av := [vi p]) (st := []) (c_X9_remove hI.2.2.1.1 hI.2.2.1.2.1 (p := p) (by omega) (by omega) (fun q b => b.1.2)) lk_RL_187 (by omega) rfl rfl hI.2.2.1.1.ob ⟨_, rfl, rfl⟩ (Nat.le_of_ble_eq_true rfl) eL_randomField_450 (fun h6 e5 => ?_)
    obtain ⟨⟨g7t, g7gk, g7F, g7p⟩, g7k⟩ := e5
    have g7i := hI.fl g7k (fun q z => Or.inl (Or.inl z)) (hI.2.1.1.mv (g7k.1 r hI.2.1.2.2.1 (fun z => hI.2.2.1.1.1.1.2.2.1 z.symm))) g7F (hI.2.2.1.2.drP (by omega) (by omega))
    obtain ⟨-, ⟨g7a, g7b⟩, g7c, g7d⟩ := id g7k
    refine q_goto (tgt := 563) eL_randomField_453 (by decide) ?_
    refine q_sub (lv2 := [(0, vr o), (1, vr bu), (2, vr r), (3, vr f), (4, vi n)]) [0, 1, 2, 3, 4] rfl ?_
    exact kk0 h6 g7i ⟨by omega, by omega⟩

set_option maxRecDepth 4000 in
set_option maxHeartbeats 4000000 in
theorem rg_P5 {w : am_w} {d : Nat} {Q : RV → AH → Prop} {h : AH} {o bu r bs : Nat} {D0 cm : Int → Int} {sc : Nat} {L : GL} {le : Int} {Hs : List GE} {Z : List Int} {f sa pa : Nat} {gs gp : Int → Option Nat} {D : Int → Int} {n x y p k : Int} (hd : 80 ≤ d) (hI : RFS w o bu r f sa pa bs gs gp none h D D0 cm sc L le Hs Z) (hp : 0 ≤ p ∧ p < D 3) (hcl : gm_rL D p 0) (kk : ∀ (h1 : AH), RFS w o bu r f sa pa bs gs gp none h1 (gm_clP D p) D0 cm sc L le Hs Z → (h1.2.1 ≤ h.2.1 + 0 ∧ h1.2.2 ≤ h.2.2 + 0) → AQ w m_L_randomField d 467 [(0, vr o), (1, vr bu), (2, vr r), (3, vr f), (4, vi n), (5, vi x), (6, vi y), (7, vi p), (8, vi k)] [] h1 Q)  : AQ w m_L_randomField d 456 [(0, vr o), (1, vr bu), (2, vr r), (3, vr f), (4, vi n), (5, vi x), (6, vi y), (7, vi p), (8, vi k)] [] h Q := by
  have hD := hI.2.2.1.2.1
  have d0 := hD.1
  have d1 := hD.2.1
  have d2 := hD.2.2.1
  have d3 := hD.2.2.2.1
  have tb := hI.1.top
  have rr := hI.2.1.2.2.1
  have rb := hI.2.1.2.1
  have hbo := hI.2.2.2.2
  obtain ⟨op1, ⟨np1, np2⟩, cp1, xy1⟩ := hD.2.2.2.2.2 p (by omega) (by omega)
  have vcp := hD.vc (p := p) (by omega) (by omega)
  obtain ⟨shq, hsq, -⟩ := hI.2.2.1.1.2.2.2.2.2.1 p (by omega) (by omega)
  refine q_blk (lv2 := [(0, vr o), (1, vr bu), (2, vr r), (3, vr f), (4, vi n), (5, vi x), (6, vi y), (7, vi p), (8, vi k)]) (st2 := [vr f]) kL_randomField_456 rfl ?_
  obtain ⟨⟨bf1, bs1, bp1⟩, C01, ⟨fz11, C11⟩, ⟨fz21, C21⟩, hst, hsh, hij⟩ := id hI.2.2.1.1
  have bf1x0 := bf1.1.1
  have bf1x1 := bf1.1.2
  have bf1x2 := bf1.2.1
  have bf1x3 := bf1.2.2.1
  have bs1x0 := bs1.1.1
  have bs1x1 := bs1.1.2
  have bs1x2 := bs1.2.1
  have bs1x3 := bs1.2.2.1
  have bp1x0 := bp1.1.1
  have bp1x1 := bp1.1.2
  have bp1x2 := bp1.2.1
  have bp1x3 := bp1.2.2.1
  refine q_gr eL_randomField_457 fl_RL_169 (Or.inr ⟨_, rfl⟩) C01 rfl ?_
  refine q_blk (lv2 := [(0, vr o), (1, vr bu), (2, vr r), (3, vr f), (4, vi n), (5, vi x), (6, vi y), (7, vi p), (8, vi k)]) (st2 := [vi p, vr pa]) kL_randomField_460 rfl ?_
  refine q_aa eL_randomField_462 C21 (by decide) (by omega) (by omega) hsq ?_
  refine q_blk (lv2 := [(0, vr o), (1, vr bu), (2, vr r), (3, vr f), (4, vi n), (5, vi x), (6, vi y), (7, vi p), (8, vi k)]) (st2 := [vi 1, vr shq]) kL_randomField_463 rfl ?_
  obtain ⟨q2, g2, l2⟩ := hsh p (by omega) (by omega)
  rw [hsq] at g2; obtain rfl := Option.some.inj g2
  obtain ⟨ca2, cf2, ⟨w2, u2⟩, c2, d2, e2⟩ := id l2
  refine q_pi eL_randomField_464 fl_RL_190 (fun q hq => by cases hq; exact Or.inl rfl) (Or.inr ⟨rfl, by first | decide | omega⟩) c2 (Nat.le_of_ble_eq_true rfl) (l2 := [(pO D p), 1, 0]) rfl (fun h3 e4 => ?_)
  have e4u : h3.2.1 = h.2.1 := congrArg Prod.fst (am_z e4)
  have e4v : h3.2.2 = h.2.2 := congrArg Prod.snd (am_z e4)
  have e4F : ∀ q, q < h.2.1 → q ≠ shq → h3.1 q = h.1 q := (fun q q0 q1 => am_ne e4 q q1)
  have e4K : KF h h3 (fun q => q = shq) 1 12 := ⟨fun q q0 q1 => e4F q q0 q1, ⟨by omega, by omega⟩, by omega, by omega⟩
  have e4S := FLD.setP hI.2.2.1.1 hD (fun q b => b.1.2) (p := p) (n := pN D p) (c := 1) (xs := pX D p) (ys := pY D p) (by omega) (by omega) hsq e4F (by omega) (am_at e4) ((e4F _ u2.1.2 (fun z => by have b := d2; rw [z, c2] at b; cases b)).trans d2) (Or.inl u2) e2
  have e4M : RFS w o bu r f sa pa bs gs gp none h3 (gm_clP D p) D0 cm sc L le Hs Z := hI.fl e4K (fun q z => Or.inl (Or.inr ⟨p, by omega, by omega, by rw [show q = shq from z]; exact hsq⟩)) (hI.2.1.1.mv (e4K.1 r hI.2.1.2.2.1 (fun z => w2.2.2.1 z.symm))) e4S (hI.2.2.1.2.clP (by omega) (by omega) hcl)
  exact kk h3 e4M ⟨by omega, by omega⟩

theorem gx_xp_l {E : Int → Int} {p : Int} : ∀ {n : Nat}, (∀ k : Int, 0 ≤ k → k < n → (0 ≤ pX E p k ∧ pX E p k < 100) ∧ (0 ≤ pY E p k ∧ pY E p k < 100)) → (gx_xp E p n).length ≤ 6 * n
  | 0, _ => Nat.le_refl _
  | n + 1, h => by
    have a := gx_xp_l (n := n) fun k k0 k1 => h k k0 (by omega)
    have e := h n (by omega) (by omega)
    have b := gx_nums_l (f := gx_xy E p n) (n := 2) fun k k0 k1 => by
      unfold gx_xy
      split <;> omega
    rw [gx_xp, List.length_append]
    omega
theorem gx_xp_s {E : Int → Int} {p k : Int} (k0 : 0 ≤ k) : gx_xp E p (k + 1).toNat = gx_xp E p k.toNat ++ gx_nums (gx_xy E p k) 2 := by
  obtain ⟨n, rfl⟩ := Int.eq_ofNat_of_zero_le k0
  rfl

set_option maxRecDepth 4000 in
set_option maxHeartbeats 8000000 in
theorem rg_P6 {w : am_w} {d : Nat} {Q : RV → AH → Prop} {h : AH} {o bu r bs : Nat} {D0 cm : Int → Int} {sc : Nat} {L : GL} {le : Int} {Hs : List GE} {Z : List Int} {f sa pa : Nat} {gs gp : Int → Option Nat} {D : Int → Int} {n x y p kq9 : Int} (hd : 80 ≤ d) (hI : RFS w o bu r f sa pa bs gs gp none h D D0 cm sc L le Hs Z) (hp : 0 ≤ p ∧ p < D 3) (hz : Z.length ≤ 500) (kk : ∀ (g : Int → Int) (h1 : AH), g 0 = pO D p → RFS w o bu r f sa pa bs gs gp none h1 D D0 cm sc L le Hs (Z ++ gm_lit 22 ++ gx_nums g (1 : Int).toNat ++ gx_xp D p (pN D p).toNat ++ gm_lit 24) → (gx_nums g (1 : Int).toNat).length ≤ 3 → (gx_xp D p (pN D p).toNat).length ≤ 72 → (h1.2.1 ≤ h.2.1 + 13 ∧ h1.2.2 ≤ h.2.2 + 25) → AQ w m_L_randomField d 563 [(0, vr o), (1, vr bu), (2, vr r), (3, vr f), (4, vi n)] [] h1 Q)  : AQ w m_L_randomField d 467 [(0, vr o), (1, vr bu), (2, vr r), (3, vr f), (4, vi n), (5, vi x), (6, vi y), (7, vi p), (8, vi kq9)] [] h Q := by
  have hD := hI.2.2.1.2.1
  have d0 := hD.1
  have d1 := hD.2.1
  have d2 := hD.2.2.1
  have d3 := hD.2.2.2.1
  have tb := hI.1.top
  have rr := hI.2.1.2.2.1
  have rb := hI.2.1.2.1
  have hbo := hI.2.2.2.2
  have l22 := (hI.2.2.2.1.2.1 22 (by decide)).1
  have l22a := l22.1
  have l22c := l22.2
  have a22 : (gm_lit 22).length = 7 := by rw [gx_l22]; rfl
  have l23 := (hI.2.2.2.1.2.1 23 (by decide)).1
  have l23a := l23.1
  have l23c := l23.2
  have a23 : (gm_lit 23).length = 0 := by rw [gx_l23]; rfl
  have l24 := (hI.2.2.2.1.2.1 24 (by decide)).1
  have l24a := l24.1
  have l24c := l24.2
  have a24 : (gm_lit 24).length = 2 := by rw [gx_l24]; rfl
  obtain ⟨op1, ⟨np1, np2⟩, cp1, xy1⟩ := hD.2.2.2.2.2 p (by omega) (by omega)
  have vcp := hD.vc (p := p) (by omega) (by omega)
  obtain ⟨shq, hsq, -⟩ := hI.2.2.1.1.2.2.2.2.2.1 p (by omega) (by omega)
  obtain ⟨⟨bf1, bs1, bp1⟩, C01, ⟨fz11, C11⟩, ⟨fz21, C21⟩, hst, hsh, hij⟩ := id hI.2.2.1.1
  have bf1x0 := bf1.1.1
  have bf1x1 := bf1.1.2
  have bf1x2 := bf1.2.1
  have bf1x3 := bf1.2.2.1
  have bs1x0 := bs1.1.1
  have bs1x1 := bs1.1.2
  have bs1x2 := bs1.2.1
  have bs1x3 := bs1.2.2.1
  have bp1x0 := bp1.1.1
  have bp1x1 := bp1.1.2
  have bp1x2 := bp1.2.1
  have bp1x3 := bp1.2.2.1
  obtain ⟨q2, g2, l2⟩ := hsh p (by omega) (by omega)
  rw [hsq] at g2; obtain rfl := Option.some.inj g2
  obtain ⟨ca2, cf2, ⟨w2, u2⟩, c2, d2, e2⟩ := id l2
  have wsh2 := w2.1.2
  have wca2 := u2.1.2
  refine q_blk (lv2 := [(0, vr o), (1, vr bu), (2, vr r), (3, vr f), (4, vi n), (5, vi x), (6, vi y), (7, vi p), (8, vi kq9)]) (st2 := [vr bu, vr o]) kL_randomField_467 rfl ?_
  refine AQ.of (AS.ldcS (i := 22) (by decide) (by decide) eL_randomField_469) ?_
  refine q_blk (lv2 := [(0, vr o), (1, vr bu), (2, vr r), (3, vr f), (4, vi n), (5, vi x), (6, vi y), (7, vi p), (8, vi kq9)]) (st2 := [vi 1, vr (w.2 22), vr bu, vr o]) kL_randomField_471 rfl ?_
  obtain ⟨t3, e5t⟩ : ∃ q : Nat, h.2.1 = q := ⟨_, rfl⟩
  refine q_na (k := 100) 1 rfl e5t eL_randomField_472 (Or.inl ⟨rfl, rfl⟩) (am_gw 120 (by decide +kernel) (by decide +kernel)) (by omega) (by omega) (fun h4 e5c e5f e5z => ?_)
  have k6 := (e5f f (by omega)).trans C01
  have k7 := (e5f sa (by omega)).trans C11
  have k8 := (e5f pa (by omega)).trans C21
  have k9 := (e5f shq (by omega)).trans c2
  have k10 := (e5f ca2 (by omega)).trans d2
  have e5u : h4.2.1 = t3 + 1 := by rw [e5z]
  have e5v : h4.2.2 = h.2.2 + 1 := by rw [e5z]
  have F11 : ∀ q, q < h.2.1 → ¬ NO q → h4.1 q = h.1 q := fun q q0 q1 => (e5f q (by omega)).trans ((fun _ _ _ => rfl) q q0 q1)
  refine q_blk (lv2 := [(0, vr o), (1, vr bu), (2, vr r), (3, vr f), (4, vi n), (5, vi x), (6, vi y), (7, vi p), (8, vi kq9)]) (st2 := [vr f, vi 0, vr t3, vr t3, vr (w.2 22), vr bu, vr o]) kL_randomField_474 rfl ?_
  refine q_gr eL_randomField_477 fl_RL_169 (Or.inr ⟨_, rfl⟩) k6 rfl ?_
  refine q_blk (lv2 := [(0, vr o), (1, vr bu), (2, vr r), (3, vr f), (4, vi n), (5, vi x), (6, vi y), (7, vi p), (8, vi kq9)]) (st2 := [vi p, vr pa, vi 0, vr t3, vr t3, vr (w.2 22), vr bu, vr o]) kL_randomField_480 rfl ?_
  refine q_aa eL_randomField_482 k8 (by decide) (by omega) (by omega) hsq ?_
  refine q_gi eL_randomField_483 fl_RL_195 (Or.inl rfl) k9 (z := (pO D p)) rfl ?_
  refine q_is eL_randomField_486 e5c (by omega) (by omega) (fun h12 e13 => ?_)
  have k14 := (am_ne e13 f (by omega)).trans k6
  have k15 := (am_ne e13 sa (by omega)).trans k7
  have k16 := (am_ne e13 pa (by omega)).trans k8
  have k17 := (am_ne e13 shq (by omega)).trans k9
  have k18 := (am_ne e13 ca2 (by omega)).trans k10
  have k19 := am_at e13
  have e13u : h12.2.1 = h4.2.1 := congrArg Prod.fst (am_z e13)
  have e13v : h12.2.2 = h4.2.2 := congrArg Prod.snd (am_z e13)
  have F20 : ∀ q, q < h.2.1 → ¬ NO q → h12.1 q = h.1 q := fun q q0 q1 => (am_ne e13 q (by omega)).trans (F11 q q0 q1)
  have I21 := hI.kn (h1 := h12) (c := 30) (s := 300) ⟨F20, ⟨by omega, by omega⟩, by omega, by omega⟩
  have hf22 : ∀ j9 : Int, 0 ≤ j9 → j9 < 1 → 0 ≤ (am_uI am_Z 0 (pO D p)) j9 ∧ (am_uI am_Z 0 (pO D p)) j9 < 100 := fun j9 j90 j91 => by unfold am_uI; split <;> (try split) <;> (try split) <;> omega
  refine AQ.callSv (av := [vr o, vr bu, vr (w.2 22), vr t3]) (st := []) (c_L_writeNumbers I21.1 k19 (by omega) (fun z => by omega) (by omega) ⟨by omega, by omega⟩ hf22 (I21.2.2.2.1.2.1.st (i := 22) I21.2.2.2.1.1 (by decide)) (fun z => by omega) (fun z => by omega) (by (try simp only [List.length_append]); omega) I21.2.2.2.1 hbo) lk_RL_146 (by omega) rfl rfl (Nat.le_of_ble_eq_true rfl) eL_randomField_487 (fun h25 e24 => ?_)
  obtain ⟨g26T, g26k⟩ := e24
  have g26i := I21.wr g26k g26T
  obtain ⟨-, ⟨g26a, g26b⟩, g26y, g26z⟩ := id g26k
  have hf22l : (gx_nums (am_uI am_Z 0 (pO D p)) (1 : Int).toNat).length ≤ 3 * 1 := gx_nums_l (n := 1) hf22
  refine q_blk (lv2 := [(0, vr o), (1, vr bu), (2, vr r), (3, vr f), (4, vi n), (5, vi x), (6, vi y), (7, vi p), (8, vi kq9)]) (st2 := [vr f]) kL_randomField_490 rfl ?_
  obtain ⟨⟨bf27, bs27, bp27⟩, C027, ⟨fz127, C127⟩, ⟨fz227, C227⟩, hst, hsh, hij⟩ := id g26i.2.2.1.1
  have bf27x0 := bf27.1.1
  have bf27x1 := bf27.1.2
  have bf27x2 := bf27.2.1
  have bf27x3 := bf27.2.2.1
  have bs27x0 := bs27.1.1
  have bs27x1 := bs27.1.2
  have bs27x2 := bs27.2.1
  have bs27x3 := bs27.2.2.1
  have bp27x0 := bp27.1.1
  have bp27x1 := bp27.1.2
  have bp27x2 := bp27.2.1
  have bp27x3 := bp27.2.2.1
  refine q_gr eL_randomField_491 fl_RL_169 (Or.inr ⟨_, rfl⟩) C027 rfl ?_
  refine q_blk (lv2 := [(0, vr o), (1, vr bu), (2, vr r), (3, vr f), (4, vi n), (5, vi x), (6, vi y), (7, vi p), (8, vi kq9)]) (st2 := [vi p, vr pa]) kL_randomField_494 rfl ?_
  refine q_aa eL_randomField_496 C227 (by decide) (by omega) (by omega) hsq ?_
  obtain ⟨q28, g28, l28⟩ := hsh p (by omega) (by omega)
  rw [hsq] at g28; obtain rfl := Option.some.inj g28
  obtain ⟨ca28, cf28, ⟨w28, u28⟩, c28, d28, e28⟩ := id l28
  refine q_gr eL_randomField_497 fl_RL_178 (Or.inr ⟨_, rfl⟩) c28 rfl ?_
  have wca28 := u28.1.2
  have wcb28 := u28.1.1
  refine q_blk (lv2 := [(0, vr o), (1, vr bu), (2, vr r), (3, vr f), (4, vi n), (5, vi x), (6, vi y), (7, vi p), (8, vr ca28)]) (st2 := [vr ca28]) kL_randomField_500 rfl ?_
  refine q_al eL_randomField_504 d28 (by decide) ?_
  refine q_blk (lv2 := [(0, vr o), (1, vr bu), (2, vr r), (3, vr f), (4, vi n), (5, vi x), (6, vi y), (7, vi p), (8, vr ca28), (9, vi (pN D p)), (10, vi 0)]) (st2 := []) kL_randomField_505 rfl ?_
  refine am_lp2 (I := fun (k : Int) (hh : AH) => (0 ≤ k ∧ k ≤ pN D p) ∧ RFS w o bu r f sa pa bs gs gp none hh D D0 cm sc L le Hs ((Z ++ gm_lit 22 ++ gx_nums (am_uI am_Z 0 (pO D p)) (1 : Int).toNat) ++ gx_xp D p k.toNat) ∧ KF h25 hh (fun q => (o ≤ q ∧ q < o + 256) ∨ q = bu) k.toNat (2 * k.toNat)) (μ := fun (k : Int) (hh : AH) => (pN D p - k).toNat) (G := fun (k : Int) (hh : AH) => AQ w m_L_randomField d 510 [(0, vr o), (1, vr bu), (2, vr r), (3, vr f), (4, vi n), (5, vi x), (6, vi y), (7, vi p), (8, vr ca28), (9, vi (pN D p)), (10, vi k)] [] hh (Q)) ?_ 0 h25 (⟨⟨by omega, by omega⟩, (by show RFS _ _ _ _ _ _ _ _ _ _ _ _ _ _ _ _ _ _ _ ((Z ++ gm_lit 22 ++ gx_nums (am_uI am_Z 0 (pO D p)) (1 : Int).toNat) ++ []); rw [List.append_nil]; exact g26i), KF.rf⟩)
  intro k hh hI30 ih29
  obtain ⟨⟨k0, k1⟩, hI9, kfF, ⟨kfa, kfb⟩, kfc, kfd⟩ := hI30
  have kca := (kfF ca28 wca28 (fun z => z.elim (fun z => by omega) u28.2.1)).trans d28
  have xk := fun (j0 : k < pN D p) => xy1 k k0 j0
  have xl := gx_xp_l (E := D) (p := p) (n := k.toNat) (fun j j0 j1 => by have := xy1 j j0 (by omega); omega)
  refine q_blk (lv2 := [(0, vr o), (1, vr bu), (2, vr r), (3, vr f), (4, vi n), (5, vi x), (6, vi y), (7, vi p), (8, vr ca28), (9, vi (pN D p)), (10, vi k)]) (st2 := [vi (pN D p), vi k]) kL_randomField_510 rfl ?_
  refine AQ.ic_ge (tgt := 556) eL_randomField_514 (by decide) (by first | assumption | exact ⟨by omega, by omega⟩ | exact ⟨by decide, by decide⟩) (by first | assumption | exact ⟨by omega, by omega⟩ | exact ⟨by decide, by decide⟩) (fun br31 => ?_) (fun br31 => ?_)
  · skip
    have ekn : k = pN D p := by omega
    rw [ekn] at hI9 xl
    refine q_blk (lv2 := [(0, vr o), (1, vr bu), (2, vr r), (3, vr f), (4, vi n), (5, vi x), (6, vi y), (7, vi p), (8, vr ca28), (9, vi (pN D p)), (10, vi k)]) (st2 := [vr bu, vr o]) kL_randomField_556 rfl ?_
    refine AQ.of (AS.ldcS (i := 24) (by decide) (by decide) eL_randomField_558) ?_
    refine AQ.callSv (av := [vr o, vr bu, vr (w.2 24)]) (st := []) (c_L_write hI9.1 (hI9.2.2.2.1.2.1.st (i := 24) hI9.2.2.2.1.1 (by decide)) (fun z => by omega) (fun z => by omega) (by (try simp only [List.length_append]); omega)) lk_RL_120 (by omega) rfl rfl (Nat.le_of_ble_eq_true rfl) eL_randomField_560 (fun h34 e33 => ?_)
    obtain ⟨g35T, g35k⟩ := e33
    have g35i := hI9.wr g35k g35T
    obtain ⟨-, ⟨g35a, g35b⟩, g35y, g35z⟩ := id g35k
    refine q_sub (lv2 := [(0, vr o), (1, vr bu), (2, vr r), (3, vr f), (4, vi n)]) [0, 1, 2, 3, 4] rfl ?_
    exact kk (am_uI am_Z 0 (pO D p)) h34 rfl g35i (by omega) (by omega) ⟨by omega, by omega⟩
  · skip
    refine q_blk (lv2 := [(0, vr o), (1, vr bu), (2, vr r), (3, vr f), (4, vi n), (5, vi x), (6, vi y), (7, vi p), (8, vr ca28), (9, vi (pN D p)), (10, vi k)]) (st2 := [vi k, vr ca28]) kL_randomField_517 rfl ?_
    refine q_ia eL_randomField_521 kca (by decide) (by omega) (by omega) (z := (cf28 k)) rfl ?_
    have xk9 := xk (by omega)
    have ck9 := e28 k k0 (by omega)
    refine q_blk (lv2 := [(0, vr o), (1, vr bu), (2, vr r), (3, vr f), (4, vi n), (5, vi x), (6, vi y), (7, vi p), (8, vr ca28), (9, vi (pN D p)), (10, vi k), (11, vi (cf28 k))]) (st2 := [vr bu, vr o]) kL_randomField_522 rfl ?_
    refine AQ.of (AS.ldcS (i := 23) (by decide) (by decide) eL_randomField_526) ?_
    refine q_blk (lv2 := [(0, vr o), (1, vr bu), (2, vr r), (3, vr f), (4, vi n), (5, vi x), (6, vi y), (7, vi p), (8, vr ca28), (9, vi (pN D p)), (10, vi k), (11, vi (cf28 k))]) (st2 := [vi 2, vr (w.2 23), vr bu, vr o]) kL_randomField_528 rfl ?_
    obtain ⟨t36, e38t⟩ : ∃ q : Nat, hh.2.1 = q := ⟨_, rfl⟩
    refine q_na (k := 100) 2 rfl e38t eL_randomField_529 (Or.inl ⟨rfl, rfl⟩) (am_gw 120 (by decide +kernel) (by decide +kernel)) (by omega) (by omega) (fun h37 e38c e38f e38z => ?_)
    have k39 := (e38f ca28 (by omega)).trans kca
    have e38u : h37.2.1 = t36 + 1 := by rw [e38z]
    have e38v : h37.2.2 = hh.2.2 + 2 := by rw [e38z]
    have F40 : ∀ q, q < hh.2.1 → ¬ NO q → h37.1 q = hh.1 q := fun q q0 q1 => (e38f q (by omega)).trans ((fun _ _ _ => rfl) q q0 q1)
    refine q_blk (lv2 := [(0, vr o), (1, vr bu), (2, vr r), (3, vr f), (4, vi n), (5, vi x), (6, vi y), (7, vi p), (8, vr ca28), (9, vi (pN D p)), (10, vi k), (11, vi (cf28 k))]) (st2 := [vi 100, vi (cf28 k), vi 0, vr t36, vr t36, vr (w.2 23), vr bu, vr o]) kL_randomField_531 rfl ?_
    refine AQ.of (AS.idiv eL_randomField_537 (by first | assumption | exact ⟨by omega, by omega⟩ | exact ⟨by decide, by decide⟩) ⟨by decide, by decide⟩ (by omega)) ?_
    rw [show (Int.tdiv (cf28 k) 100) = pX D p k from by rw [e28 k k0 (by omega), Int.tdiv_eq_ediv_of_nonneg (by omega)]; omega]
    refine q_is eL_randomField_538 e38c (by omega) (by omega) (fun h41 e42 => ?_)
    have k43 := (am_ne e42 ca28 (by omega)).trans k39
    have k44 := am_at e42
    have e42u : h41.2.1 = h37.2.1 := congrArg Prod.fst (am_z e42)
    have e42v : h41.2.2 = h37.2.2 := congrArg Prod.snd (am_z e42)
    have F45 : ∀ q, q < hh.2.1 → ¬ NO q → h41.1 q = hh.1 q := fun q q0 q1 => (am_ne e42 q (by omega)).trans (F40 q q0 q1)
    refine q_blk (lv2 := [(0, vr o), (1, vr bu), (2, vr r), (3, vr f), (4, vi n), (5, vi x), (6, vi y), (7, vi p), (8, vr ca28), (9, vi (pN D p)), (10, vi k), (11, vi (cf28 k))]) (st2 := [vi 100, vi (cf28 k), vi 1, vr t36, vr t36, vr (w.2 23), vr bu, vr o]) kL_randomField_539 rfl ?_
    refine AQ.of (AS.irem eL_randomField_545 (by first | assumption | exact ⟨by omega, by omega⟩ | exact ⟨by decide, by decide⟩) ⟨by decide, by decide⟩ (by omega)) ?_
    rw [show (Int.tmod (cf28 k) 100) = pY D p k from by rw [e28 k k0 (by omega), Int.tmod_eq_emod_of_nonneg (by omega)]; omega]
    refine q_is eL_randomField_546 k44 (by omega) (by omega) (fun h46 e47 => ?_)
    have k48 := (am_ne e47 ca28 (by omega)).trans k43
    have k49 := am_at e47
    have e47u : h46.2.1 = h41.2.1 := congrArg Prod.fst (am_z e47)
    have e47v : h46.2.2 = h41.2.2 := congrArg Prod.snd (am_z e47)
    have F50 : ∀ q, q < hh.2.1 → ¬ NO q → h46.1 q = hh.1 q := fun q q0 q1 => (am_ne e47 q (by omega)).trans (F45 q q0 q1)
    have NF9 : ∀ q, q < hh.2.1 → h46.1 q = hh.1 q := fun q q0 => F50 q q0 id
    have I51 := hI9.kn (h1 := h46) (c := 30) (s := 300) ⟨F50, ⟨by omega, by omega⟩, by omega, by omega⟩
    have hf52 : ∀ j9 : Int, 0 ≤ j9 → j9 < 2 → 0 ≤ (am_uI (am_uI am_Z 0 (pX D p k)) 1 (pY D p k)) j9 ∧ (am_uI (am_uI am_Z 0 (pX D p k)) 1 (pY D p k)) j9 < 100 := fun j9 j90 j91 => by unfold am_uI; split <;> (try split) <;> (try split) <;> omega
    refine AQ.callSv (av := [vr o, vr bu, vr (w.2 23), vr t36]) (st := []) (c_L_writeNumbers I51.1 k49 (by omega) (fun z => by omega) (by omega) ⟨by omega, by omega⟩ hf52 (I51.2.2.2.1.2.1.st (i := 23) I51.2.2.2.1.1 (by decide)) (fun z => by omega) (fun z => by omega) (by (try simp only [List.length_append]); omega) I51.2.2.2.1 hbo) lk_RL_146 (by omega) rfl rfl (Nat.le_of_ble_eq_true rfl) eL_randomField_547 (fun h55 e54 => ?_)
    obtain ⟨g56T, g56k⟩ := e54
    have g56i := I51.wr g56k g56T
    obtain ⟨-, ⟨g56a, g56b⟩, g56y, g56z⟩ := id g56k
    have hf52l : (gx_nums (am_uI (am_uI am_Z 0 (pX D p k)) 1 (pY D p k)) (2 : Int).toNat).length ≤ 3 * 2 := gx_nums_l (n := 2) hf52
    refine q_blk (lv2 := [(0, vr o), (1, vr bu), (2, vr r), (3, vr f), (4, vi n), (5, vi x), (6, vi y), (7, vi p), (8, vr ca28), (9, vi (pN D p)), (10, vi (k + 1)), (11, vi (cf28 k))]) (st2 := []) kL_randomField_550 rfl ?_
    refine q_goto (tgt := 510) eL_randomField_553 (by decide) ?_
    refine q_sub (lv2 := [(0, vr o), (1, vr bu), (2, vr r), (3, vr f), (4, vi n), (5, vi x), (6, vi y), (7, vi p), (8, vr ca28), (9, vi (pN D p)), (10, vi (k + 1))]) [0, 1, 2, 3, 4, 5, 6, 7, 8, 9, 10] rfl ?_
    exact ih29 (k + 1) h55 (⟨⟨by omega, by omega⟩, (by have t := g56i; rw [gx_l23, List.append_nil, List.append_assoc] at t; rw [gx_xp_s k0]; exact t), ⟨fun q q0 q1 => (g56k.1 q (by omega) q1).trans ((NF9 q (by omega)).trans (kfF q q0 q1)), ⟨by omega, by omega⟩, by omega, by omega⟩⟩) (by omega)

theorem RFS.ms {w : am_w} {h : AH} {o bu r f sa pa bs : Nat} {gs gp : Int → Option Nat} {T : Option Nat} {D D0 cm : Int → Int} {sc : Nat} {L : GL} {le : Int} {Hs : List GE} {Z : List Int} (x : RFS w o bu r f sa pa bs gs gp T h D D0 cm sc L le Hs Z) {q : Nat} (m : MS f gp (D 3) q) : LB o bu r r h q := by
  rcases m with rfl | ⟨p, p0, p1, e⟩
  · exact x.2.2.1.1.1.1
  · obtain ⟨a, g, ca, c, ⟨b, -⟩, -⟩ := x.2.2.1.1.2.2.2.2.2.1 p p0 p1
    rw [e] at g; cases g; exact b

set_option maxRecDepth 4000 in
set_option maxHeartbeats 8000000 in
theorem rg_T1 {w : am_w} {d : Nat} {Q : RV → AH → Prop} {h : AH} {o bu r bs : Nat} {D0 cm : Int → Int} {sc : Nat} {L : GL} {le : Int} {Hs : List GE} {Z : List Int} {f sa pa : Nat} {gs gp : Int → Option Nat} {D : Int → Int} {n : Int} (hd : 80 ≤ d) (hI : RFS w o bu r f sa pa bs gs gp none h D D0 cm sc L le Hs Z) (hz : Z.length ≤ 500) (kk0 : ∀ (h1 : AH), RFS w o bu r f sa pa bs gs gp none h1 D D0 cm sc L le Hs Z → (h1.2.1 ≤ h.2.1 + 0 ∧ h1.2.2 ≤ h.2.2 + 0) → AQ w m_L_randomField d 617 [(0, vr o), (1, vr bu), (2, vr r), (3, vr f), (4, vi n)] [] h1 Q) (kk1 : ∀ {tq N9 : Nat} {L9 : GL} {X9 : Int → List Int} (h1 : AH), PX N9 L9 X9 → N9 ≤ 2 → RFS w o bu r f sa pa bs gs gp (some tq) h1 D D0 cm sc L le Hs (Z ++ gm_lit 25 ++ X9 0 ++ gm_lit 20) → (X9 0).length ≤ 43 → TRM h1 (fun q => LB o bu r r h1 q ∧ ¬ MS f gp (D 3) q) (some tq) (gm_cod (some L9)) → (h1.2.1 ≤ h.2.1 + 73 ∧ h1.2.2 ≤ h.2.2 + 204700) → AQ w m_L_randomField d 617 [(0, vr o), (1, vr bu), (2, vr r), (3, vr f), (4, vi n)] [] h1 Q)  : AQ w m_L_randomField d 569 [(0, vr o), (1, vr bu), (2, vr r), (3, vr f), (4, vi n)] [] h Q := by
  have hD := hI.2.2.1.2.1
  have d0 := hD.1
  have d1 := hD.2.1
  have d2 := hD.2.2.1
  have d3 := hD.2.2.2.1
  have tb := hI.1.top
  have rr := hI.2.1.2.2.1
  have rb := hI.2.1.2.1
  have hbo := hI.2.2.2.2
  have l20 := (hI.2.2.2.1.2.1 20 (by decide)).1
  have l20a := l20.1
  have l20c := l20.2
  have a20 : (gm_lit 20).length = 1 := by rw [gx_l20]; rfl
  have l25 := (hI.2.2.2.1.2.1 25 (by decide)).1
  have l25a := l25.1
  have l25c := l25.2
  have a25 : (gm_lit 25).length = 6 := by rw [gx_l25]; rfl
  have fb9 := hI.2.2.1.1.1.1.1.2
  refine q_blk (lv2 := [(0, vr o), (1, vr bu), (2, vr r), (3, vr f), (4, vi n)]) (st2 := [vi 2, vr r]) kL_randomField_569 rfl ?_
  refine AQ.callVi (av := [vi 2]) (st := []) (c_X11_below hI.2.1.1 hI.2.1.2.2.1 (b := 2) (by omega) (by omega)) lk_RL_132 (by omega) rfl rfl hI.2.1.1.ob ⟨_, rfl, rfl⟩ (Nat.le_of_ble_eq_true rfl) eL_randomField_571 (fun z1 h3 e2 => ?_)
  obtain ⟨⟨z1a, z1b⟩, g4r, g4k⟩ := e2
  have g4i := hI.kr g4k g4r
  obtain ⟨-, ⟨g4a, g4b⟩, g4y, g4z⟩ := id g4k
  refine AQ.if_ne (tgt := 617) eL_randomField_574 (by decide) (by first | assumption | exact ⟨by omega, by omega⟩ | exact ⟨by decide, by decide⟩) (fun br5 => ?_) (fun br5 => ?_)
  · skip
    exact kk0 h3 g4i ⟨by omega, by omega⟩
  · skip
    refine q_blk (lv2 := [(0, vr o), (1, vr bu), (2, vr r), (3, vr f), (4, vi n)]) (st2 := [vi 3, vr r, vr r, vr f]) kL_randomField_577 rfl ?_
    refine AQ.callVi (av := [vi 3]) (st := [vr r, vr f]) (c_X11_below g4i.2.1.1 g4i.2.1.2.2.1 (b := 3) (by omega) (by omega)) lk_RL_132 (by omega) rfl rfl g4i.2.1.1.ob ⟨_, rfl, rfl⟩ (Nat.le_of_ble_eq_true rfl) eL_randomField_581 (fun z6 h8 e7 => ?_)
    obtain ⟨⟨z6a, z6b⟩, g9r, g9k⟩ := e7
    have g9i := g4i.kr g9k g9r
    obtain ⟨-, ⟨g9a, g9b⟩, g9y, g9z⟩ := id g9k
    obtain ⟨N9, eN9⟩ : ∃ N : Nat, z6 = N := ⟨z6.toNat, by omega⟩
    rw [eN9]
    have nN9 : N9 < 3 := by omega
    have cN9 : gm_nc N9 ≤ 7 ∧ gm_tc N9 ≤ 66 ∧ gm_tl N9 ≤ 43 := by rcases (show N9 = 0 ∨ N9 = 1 ∨ N9 = 2 by omega) with q | q | q <;> rw [q] <;> decide
    obtain ⟨cN9a, cN9b, cN9c⟩ := cN9
    refine AQ.callSr (av := [vr r, vi (N9 : Int)]) (st := [vr f]) (c_X10_random (N := N9) (by omega) g9i.2.1.1 g9i.2.1.2.2.1) lk_RL_202 (by omega) rfl rfl (Nat.le_of_ble_eq_true rfl) eL_randomField_584 (fun z10 h12 e11 => ?_)
    obtain ⟨⟨L9, X9, g13n⟩, g13r, g13k⟩ := e11
    have g13i := g9i.kr g13k g13r
    obtain ⟨-, ⟨g13a, g13b⟩, g13y, g13z⟩ := id g13k
    have ft9 := g13n.b.1
    have ft9a := ft9.1
    have ft9b := ft9.2
    obtain ⟨⟨bf14, bs14, bp14⟩, C014, ⟨fz114, C114⟩, ⟨fz214, C214⟩, hst, hsh, hij⟩ := id g13i.2.2.1.1
    have bf14x0 := bf14.1.1
    have bf14x1 := bf14.1.2
    have bf14x2 := bf14.2.1
    have bf14x3 := bf14.2.2.1
    have bs14x0 := bs14.1.1
    have bs14x1 := bs14.1.2
    have bs14x2 := bs14.2.1
    have bs14x3 := bs14.2.2.1
    have bp14x0 := bp14.1.1
    have bp14x1 := bp14.1.2
    have bp14x2 := bp14.2.1
    have bp14x3 := bp14.2.2.1
    refine q_pr eL_randomField_587 fl_RL_208 (fun q hq => by cases hq; exact Or.inl rfl) (Or.inl ⟨_, rfl⟩) C014 (Nat.le_of_ble_eq_true rfl) (l2 := [none, none, some sa, some pa, some z10]) rfl (fun h15 e16 => ?_)
    have e16K := KF.one e16
    have e16F : FLD h15 (LB o bu r r h12) f sa pa gs gp (some z10) D := g13i.2.2.1.1.cf (fun q _ n => am_ne e16 q n) (am_at e16) (fun i hi => rfl)
    have e16I := g13i.fl e16K (fun q z => Or.inl (Or.inl z)) (g13i.2.1.1.mv (e16K.1 r g13i.2.1.2.2.1 (fun z => g13i.2.2.1.1.1.1.2.2.1 z.symm))) (e16F.loc (fun _ _ => rfl) (fun q b => Or.inl b)) g13i.2.2.1.2
    obtain ⟨-, ⟨e16a, e16b⟩, e16y, e16z⟩ := id e16K
    have e16N := g13n.mv (h1 := h15) (B1 := FR h8 h12) (fun q b => am_ne e16 q (fun z => by have := b.1; omega)) (fun q b => b)
    refine q_blk (lv2 := [(0, vr o), (1, vr bu), (2, vr r), (3, vr f), (4, vi n)]) (st2 := [vr bu, vr o]) kL_randomField_590 rfl ?_
    refine AQ.of (AS.ldcS (i := 25) (by decide) (by decide) eL_randomField_592) ?_
    refine AQ.callSv (av := [vr o, vr bu, vr (w.2 25)]) (st := []) (c_L_write e16I.1 (e16I.2.2.2.1.2.1.st (i := 25) e16I.2.2.2.1.1 (by decide)) (fun z => by omega) (fun z => by omega) (by (try simp only [List.length_append]); omega)) lk_RL_120 (by omega) rfl rfl (Nat.le_of_ble_eq_true rfl) eL_randomField_594 (fun h19 e18 => ?_)
    obtain ⟨g20T, g20k⟩ := e18
    have g20i := e16I.wr g20k g20T
    obtain ⟨-, ⟨g20a, g20b⟩, g20y, g20z⟩ := id g20k
    have N21 := e16N.mv (h1 := h19) (B1 := FR h8 h12) (fun q b => g20k.1 q (by have := b.2; omega) (fun z => by have := b.1; have := b.2; exact z.elim (fun z => by omega) (fun z => by omega))) (fun q b => b)
    refine q_blk (lv2 := [(0, vr o), (1, vr bu), (2, vr r), (3, vr f), (4, vi n)]) (st2 := [vr f, vr bu, vr o]) kL_randomField_597 rfl ?_
    obtain ⟨⟨bf22, bs22, bp22⟩, C022, ⟨fz122, C122⟩, ⟨fz222, C222⟩, hst, hsh, hij⟩ := id g20i.2.2.1.1
    have bf22x0 := bf22.1.1
    have bf22x1 := bf22.1.2
    have bf22x2 := bf22.2.1
    have bf22x3 := bf22.2.2.1
    have bs22x0 := bs22.1.1
    have bs22x1 := bs22.1.2
    have bs22x2 := bs22.2.1
    have bs22x3 := bs22.2.2.1
    have bp22x0 := bp22.1.1
    have bp22x1 := bp22.1.2
    have bp22x2 := bp22.2.1
    have bp22x3 := bp22.2.2.1
    refine q_gr eL_randomField_600 fl_RL_208 (Or.inl ⟨_, rfl⟩) C022 rfl ?_
    refine q_blk (lv2 := [(0, vr o), (1, vr bu), (2, vr r), (3, vr f), (4, vi n)]) (st2 := [vi 0, vr z10, vr bu, vr o]) kL_randomField_603 rfl ?_
    refine AQ.callVr (av := [vi 0]) (st := [vr bu, vr o]) (c_X10_text (N := N9) (by omega) g20i.2.2.2.1 N21 (fun q b => by have := b.2; omega) (l := 0) ⟨by omega, by omega⟩) lk_RL_214 (by omega) rfl rfl N21.b.2 ⟨_, rfl, rfl⟩ (Nat.le_of_ble_eq_true rfl) eL_randomField_604 (fun z23 h25 e24 => ?_)
    obtain ⟨⟨g26v, g26S, g26x, g26y⟩, g26k⟩ := e24
    have g26i := g20i.kn g26k
    obtain ⟨-, ⟨g26a, g26b⟩, g26c, g26d⟩ := id g26k
    have xl9 := N21.len 0
    have N27 := N21.mv (h1 := h25) (B1 := FR h8 h12) (fun q b => g26k.1 q (by have := b.2; omega) id) (fun q b => b)
    refine AQ.callSv (av := [vr o, vr bu, vr z23]) (st := []) (c_L_write g26i.1 g26S (fun z => by omega) (fun z => by omega) (by (try simp only [List.length_append]); omega)) lk_RL_120 (by omega) rfl rfl (Nat.le_of_ble_eq_true rfl) eL_randomField_607 (fun h30 e29 => ?_)
    obtain ⟨g31T, g31k⟩ := e29
    have g31i := g26i.wr g31k g31T
    obtain ⟨-, ⟨g31a, g31b⟩, g31y, g31z⟩ := id g31k
    have N32 := N27.mv (h1 := h30) (B1 := FR h8 h12) (fun q b => g31k.1 q (by have := b.2; omega) (fun z => by have := b.1; have := b.2; exact z.elim (fun z => by omega) (fun z => by omega))) (fun q b => b)
    refine q_blk (lv2 := [(0, vr o), (1, vr bu), (2, vr r), (3, vr f), (4, vi n)]) (st2 := [vr bu, vr o]) kL_randomField_610 rfl ?_
    refine AQ.of (AS.ldcS (i := 20) (by decide) (by decide) eL_randomField_612) ?_
    refine AQ.callSv (av := [vr o, vr bu, vr (w.2 20)]) (st := []) (c_L_write g31i.1 (g31i.2.2.2.1.2.1.st (i := 20) g31i.2.2.2.1.1 (by decide)) (fun z => by omega) (fun z => by omega) (by (try simp only [List.length_append]); omega)) lk_RL_120 (by omega) rfl rfl (Nat.le_of_ble_eq_true rfl) eL_randomField_614 (fun h35 e34 => ?_)
    obtain ⟨g36T, g36k⟩ := e34
    have g36i := g31i.wr g36k g36T
    obtain ⟨-, ⟨g36a, g36b⟩, g36y, g36z⟩ := id g36k
    have N37 := N32.mv (h1 := h35) (B1 := FR h8 h12) (fun q b => g36k.1 q (by have := b.2; omega) (fun z => by have := b.1; have := b.2; exact z.elim (fun z => by omega) (fun z => by omega))) (fun q b => b)
    have tr9 : TRM h35 (fun q => LB o bu r r h35 q ∧ ¬ MS f gp (D 3) q) (some z10) (gm_cod (some L9)) := Or.inr ⟨z10, X9, N9, rfl, by omega, N37.mv (fun _ _ => rfl) (fun q b => ⟨⟨⟨by have := b.1; omega, by have := b.2; omega⟩, by have := b.1; omega, by have := b.1; omega, by have := b.1; omega⟩, fun m => by have := (hI.ms m).1.2; have := b.1; omega⟩)⟩
    refine q_sub (lv2 := [(0, vr o), (1, vr bu), (2, vr r), (3, vr f), (4, vi n)]) [0, 1, 2, 3, 4] rfl ?_
    exact kk1 h35 (NT.px (by omega) N37) (by omega) g36i (by omega) tr9 ⟨by omega, by omega⟩

/-- what a random field is, once it is loaded -/
def RFD (w : am_w) (o bu r : Nat) (D0 cm : Int → Int) (sc : Nat) (L : GL) (Hs : List GE) (h : AH) (q : Nat) : Prop := ∃ T sa pa gs gp D Lo cm' sc' tx, LC w h o bu D cm' sc' (gm_cod Lo) tx 0 (-1) ((D0, cm, sc, L) :: Hs.take 7) ∧ (RND h r ∧ o + 256 ≤ r ∧ r < h.2.1 ∧ r ≠ bu) ∧ FLD h (LB o bu r r h) q sa pa gs gp T D ∧ FX D ∧ TRM h (fun z => LB o bu r r h z ∧ ¬ MS q gp (D 3) z) T (gm_cod Lo)

set_option maxRecDepth 4000 in
set_option maxHeartbeats 4000000 in
theorem rg_T2 {w : am_w} {d : Nat} {h h0 : AH} {o bu r bs : Nat} {D0 cm : Int → Int} {sc : Nat} {L : GL} {le : Int} {Hs : List GE} {Z : List Int} {f sa pa : Nat} {gs gp : Int → Option Nat} {D : Int → Int} {T : Option Nat} {Lo : Option GL} {j : Nat} {n : Int} (hd : 80 ≤ d) (hI : RFS w o bu r f sa pa bs gs gp T h D D0 cm sc L le Hs Z) (hR : RDS Z D Lo j) (hTR : TRM h (fun q => LB o bu r r h q ∧ ¬ MS f gp (D 3) q) T (gm_cod Lo)) (h0a : h.2.1 ≤ h0.2.1 + 600) (h0b : h.2.2 ≤ h0.2.2 + 300000)  : AQ w m_L_randomField d 617 [(0, vr o), (1, vr bu), (2, vr r), (3, vr f), (4, vi n)] [] h (am_ref (fun q h1 => RFD w o bu r D0 cm sc L Hs h1 q ∧ h1.2.1 ≤ h0.2.1 + 602 ∧ h1.2.2 ≤ h0.2.2 + 301600)) := by
  have hD := hI.2.2.1.2.1
  have d0 := hD.1
  have d1 := hD.2.1
  have d2 := hD.2.2.1
  have d3 := hD.2.2.2.1
  have tb := hI.1.top
  have rr := hI.2.1.2.2.1
  have rb := hI.2.1.2.1
  have hbo := hI.2.2.2.2
  refine q_blk (lv2 := [(0, vr o), (1, vr bu), (2, vr r), (3, vr f), (4, vi n)]) (st2 := [vr bu, vr o]) kL_randomField_617 rfl ?_
  refine AQ.callSi (av := [vr o, vr bu]) (st := []) (c_L_loadText hI.1 hR) lk_RL_218 (by omega) rfl rfl (Nat.le_of_ble_eq_true rfl) eL_randomField_619 (fun z1 h3 e2 => ?_)
  obtain ⟨g4e, ⟨tx9, cm9, sc9, g4L⟩, g4k⟩ := e2
  subst g4e
  obtain ⟨-, ⟨g4a, g4b⟩, g4c, g4d⟩ := id g4k
  have g4F := hI.2.2.1.1.loc (h1 := h3) (B1 := LB o bu r r h3) (fun q b => g4k.1 q b.1.2 (fun z => z.elim (fun a => by have := b.1; omega) b.2.1)) (fun q b => b.up g4k.2.1.1)
  have g4T := hTR.mv (h1 := h3) (B1 := (fun q => LB o bu r r h3 q ∧ ¬ MS f gp (D 3) q)) (fun q b => g4k.1 q b.1.1.2 (fun z => z.elim (fun a => by have := b.1.1; omega) b.1.2.1)) (fun q b => ⟨b.1.up g4k.2.1.1, b.2⟩)
  have g4R := hI.2.1.1.mv (g4k.1 r rr (fun z => z.elim (fun a => by omega) hI.2.1.2.2.2))
  refine q_blk (lv2 := [(0, vr o), (1, vr bu), (2, vr r), (3, vr f), (4, vi n)]) (st2 := [vr f, vi (D 3)]) kL_randomField_622 rfl ?_
  obtain ⟨⟨bf5, bs5, bp5⟩, C05, ⟨fz15, C15⟩, ⟨fz25, C25⟩, hst, hsh, hij⟩ := id g4F
  refine q_gr eL_randomField_623 fl_RL_169 (Or.inr ⟨_, rfl⟩) C05 rfl ?_
  refine q_al eL_randomField_626 C25 (by decide) ?_
  refine AQ.of (AS.ic_ne_f eL_randomField_627 (by first | assumption | exact ⟨by omega, by omega⟩ | exact ⟨by decide, by decide⟩) (by first | assumption | exact ⟨by omega, by omega⟩ | exact ⟨by decide, by decide⟩) rfl (by decide)) ?_
  refine q_blk (lv2 := [(0, vr o), (1, vr bu), (2, vr r), (3, vr f), (4, vi n)]) (st2 := [vr f]) kL_randomField_630 rfl ?_
  refine q_goto (tgt := 635) eL_randomField_631 (by decide) ?_
  exact q_ra rfl eL_randomField_635 ⟨f, rfl, ⟨T, sa, pa, gs, gp, D, Lo, _, _, _, g4L, ⟨g4R, hI.2.1.2.1, by omega, hI.2.1.2.2.2⟩, g4F, hI.2.2.1.2, g4T⟩, by omega, by omega⟩
