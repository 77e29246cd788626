/-! CornerClaimsModel: load. -/
theorem MRX.old {h h1 : AH} {n : Nat} {bf od : Int → Int} {rw : Int → Int → Int} (k : MRX h n bf od rw) {f : Int → Int} (e : h1.1 (n + 3) = some (100, 1528, f, am_N)) (g : am_fr h h1 (n + 3) (n + 3 + 1)) : MRX h1 n bf f rw := ⟨(g.2 _ (by omega)).trans k.1, e, (g.2 _ (by omega)).trans k.2.2.1, fun i i0 i1 => (g.2 _ (by omega)).trans (k.2.2.2 i i0 i1)⟩
theorem PU.of {ud ud' : Int} {rw rw' : Int → Int → Int} {D f : Int → Int} (p : PU ud rw f ud' rw') (e : gm_eq8 D f) : PU ud rw D ud' rw' := by
  rcases p with ⟨a, b, c, d⟩ | ⟨a, b, c, d⟩
  · exact Or.inl ⟨a, b, e.tr c, d⟩
  · exact Or.inr ⟨a, b, e.tr c, d⟩
section RDL
variable {kd st vl : Int → Int} {e : Int × Int} {x y : Int}
theorem rD_1 (h : kd 0 ≠ 3) : rD kd st vl = .inl (-2, st 0) := by
  unfold rD rF
  rw [show rT kd st 3 0 = .inl (-2, st 0) from if_neg h]; rfl
theorem rD_2 (h : kd 0 = 3) (h1 : rN kd st vl 2 30 1 = .inl e) : rD kd st vl = .inl e := by
  unfold rD rF
  rw [show rT kd st 3 0 = .inr () from if_pos h, rB_r rfl, rB_l h1]; rfl
theorem rD_3 (h : kd 0 = 3) (h1 : rN kd st vl 2 30 1 = .inr x) (h2 : rN kd st vl 2 30 2 = .inl e) : rD kd st vl = .inl e := by
  unfold rD rF
  rw [show rT kd st 3 0 = .inr () from if_pos h, rB_r rfl, rB_r h1, rB_l h2]; rfl
theorem rD_4 (h : kd 0 = 3) (h1 : rN kd st vl 2 30 1 = .inr x) (h2 : rN kd st vl 2 30 2 = .inr y) (h3 : rT kd st 59 3 = .inl e) : rD kd st vl = .inl e := by
  unfold rD rF
  rw [show rT kd st 3 0 = .inr () from if_pos h, rB_r rfl, rB_r h1, rB_r h2, rB_l h3]; rfl
theorem rD_5 (h : kd 0 = 3) (h1 : rN kd st vl 2 30 1 = .inr x) (h2 : rN kd st vl 2 30 2 = .inr y) (h3 : rT kd st 59 3 = .inr ()) : rD kd st vl = rR kd st vl 800 (gm_emp x y) none 4 := by
  unfold rD rF
  rw [show rT kd st 3 0 = .inr () from if_pos h, rB_r rfl, rB_r h1, rB_r h2, rB_r h3]; rfl
end RDL
theorem gm_z_emp {E : Int → Int} (h : ∀ j, 0 ≤ j → j < 1528 → E j = 0) {x y : Int} (hx : 2 ≤ x ∧ x ≤ 30) (hy : 2 ≤ y ∧ y ≤ 30) : gm_same (gm_emp x y) (am_uI (am_uI E 0 x) 1 y) ∧ am_uI (am_uI E 0 x) 1 y 4 = gm_hs none ∧ CE (am_uI (am_uI E 0 x) 1 y) (gm_ed ((none : Option GL).getD [])) := by
  have e : ∀ j, 0 ≤ j → j < 1528 → am_uI (am_uI E 0 x) 1 y j = gm_emp x y j := fun j j0 j1 => by
    unfold gm_emp
    by_cases c : j = 0
    · rw [if_pos c, am_uI_ne _ _ (by omega), c, am_uI_at]
    · rw [if_neg c]
      by_cases d : j = 1
      · rw [if_pos d, d, am_uI_at]
      · rw [if_neg d, am_uI_ne _ _ d, am_uI_ne _ _ c]; exact h j j0 j1
  refine ⟨gm_eq8.same (gm_emp_vd hx hy) e, e 4 (by decide) (by decide), ⟨(e 5 (by decide) (by decide)).trans rfl, fun k v q => ?_⟩⟩
  cases q

set_option maxHeartbeats 8000000 in
theorem c_X9_load {w : am_w} {h : AH} {n : Nat} {th bl eo ud : Int} {bf : Int → Int} {rw : Int → Int → Int} {D : Int → Int} (hA : MA h n th bl eo ud bf rw D) (hD : VD D) (hu : 0 ≤ ud ∧ ud ≤ 8) (hbl : 0 ≤ bl ∧ bl ≤ 800) {tx kd st vl : Int → Int} (hbx : BX bf tx bl) {len : Int} (r_len : am_r len) (hTK : 0 ≤ len → len ≤ bl → TKA kd st vl (gm_to tx len 801 0))  : AE w m_X9_load 22 [vr n, vi len] h (am_int (fun z h1 => ((¬ (0 ≤ len ∧ len ≤ bl) ∧ MA h1 n 1 bl eo ud bf rw D) ∨ ((0 ≤ len ∧ len ≤ bl) ∧ ((∃ e a D2, rD kd st vl = .inl (e, a) ∧ z = e ∧ gm_eq8 D D2 ∧ MA h1 n 0 0 a ud bf rw D2) ∨ (∃ D2 L E ud' rw', rD kd st vl = .inr (D2, L) ∧ z = D2 3 ∧ gm_same D2 E ∧ VD D2 ∧ E 4 = gm_hs L ∧ CE E (gm_ed (L.getD [])) ∧ (gm_ed (L.getD [])).length ≤ 1300 ∧ PU ud rw D ud' rw' ∧ (1 ≤ ud' ∧ ud' ≤ 8) ∧ MA h1 n 0 0 (-1) ud' bf rw' E)))) ∧ am_fr h h1 n (n + 14))) := by
  refine AE.of wf_X9_load (Nat.le_of_ble_eq_true rfl) (am_ok_i) ?_
  obtain ⟨tl, ps, er, ea, g0, g1, g2, g3, ns, ne, se, od, sk, hm, hR, hK⟩ := hA
  obtain ⟨m0, m1⟩ := id hm
  have d0 := hD.1
  have d1 := hD.2.1
  have d2 := hD.2.2.1
  have d3 := hD.2.2.2.1
  refine q_blk (lv2 := [(0, vr n), (1, vi len)]) (st2 := [vi 0, vr n]) kX9_load_0 rfl ?_
  refine q_pi eX9_load_2 fl_RX9_32 (fun q hq => by cases hq; exact Or.inl rfl) (Or.inl rfl) m0 (Nat.le_of_ble_eq_true rfl) (l2 := [0, 0, bl, tl, ps, er, ea, eo, 0, 0, 0, ud, g0, g1, g2, g3, ns, ne, se, 0]) rfl (fun h1 e2 => ?_)
  have k3 := am_at e2
  have k4 := (am_ne e2 (n + 2) (by omega)).trans m1
  have k5 := (am_ne e2 (n + 13) (by omega)).trans hK
  have M5 : MM h1 n 0 bl tl ps er ea eo ud g0 g1 g2 g3 ns ne se D := ⟨k3, k4⟩
  have F5 : am_fr h h1 n (n + 1) := am_fr.st e2 (by omega) (by omega)
  have Vh1 : am_fr h h1 n (n + 14) := am_fr.mo F5 (by omega) (by omega)
  have Rh1 := hR.kept F5 (by omega)
  have Kh1 := (F5.2 (n + 13) (by omega)).trans hK
  obtain ⟨m0h1, m1h1⟩ := id M5
  refine q_blk (lv2 := [(0, vr n), (1, vi len)]) (st2 := [vr n, vi 0, vi len, vr n]) kX9_load_5 rfl ?_
  refine q_gi eX9_load_9 fl_RX9_127 (Or.inl rfl) m0h1 (z := bl) rfl ?_
  refine q_Si (av := [vi len, vi 0, vi bl]) (st := [vr n]) (c_X9_in (by first | assumption | exact ⟨by omega, by omega⟩) (by first | assumption | exact ⟨by omega, by omega⟩) (by first | assumption | exact ⟨by omega, by omega⟩)) lk_RX9_57 (by decide) rfl rfl (Nat.le_of_ble_eq_true rfl) eX9_load_12 (fun z6 e7 => ?_)
  rcases e7 with ⟨rfl, e7⟩ | ⟨rfl, e7⟩
  · skip
    refine AQ.of (AS.if_ne_t (tgt := 22) eX9_load_15 (by decide) ⟨by decide, by decide⟩ (by decide)) ?_
    refine q_blk (lv2 := [(0, vr n), (1, vi len)]) (st2 := [vi 0, vr n]) kX9_load_22 rfl ?_
    refine q_blk (lv2 := [(0, vr n), (1, vi len)]) (st2 := [vi 1, vi 0, vr n]) kX9_load_23 rfl ?_
    refine AQ.callVi (av := [vi 0, vi 1]) (st := []) (c_X9_fails M5 (c := 0) (e := 1) (by decide) (by omega)) lk_RX9_241 (by decide) rfl rfl M5.ob ⟨_, rfl, rfl⟩ (Nat.le_of_ble_eq_true rfl) eX9_load_24 (fun z8 h10 e9 => ?_)
    rcases e9 with ⟨⟨rfl, Bh10⟩ | ⟨rfl, Bh10⟩, ⟨thh10, Th10, Mh10⟩, Fh10⟩
    · skip
      obtain rfl := Th10.t
      have Vh10 : am_fr h h10 n (n + 14) := am_fr.tr Vh1 (am_fr.mo Fh10 (by omega) (by omega))
      have Rh10 := Rh1.kept Fh10 (by omega)
      have Kh10 := (Fh10.2 (n + 13) (by omega)).trans Kh1
      obtain ⟨m0h10, m1h10⟩ := id Mh10
      refine AQ.of (AS.if_eq_f eX9_load_27 ⟨by decide, by decide⟩ (by decide) (by decide)) ?_
      refine q_blk (lv2 := [(0, vr n), (1, vi len)]) (st2 := [vi 0]) kX9_load_30 rfl ?_
      exact q_ri rfl eX9_load_31 ⟨0, rfl, Or.inl ⟨by omega, ⟨_, _, _, _, _, _, _, _, _, _, _, _, _, Mh10, Rh10, Kh10⟩⟩, Vh10⟩
    · skip
      obtain rfl := Th10.f
      have Vh10 : am_fr h h10 n (n + 14) := am_fr.tr Vh1 (am_fr.mo Fh10 (by omega) (by omega))
      have Rh10 := Rh1.kept Fh10 (by omega)
      have Kh10 := (Fh10.2 (n + 13) (by omega)).trans Kh1
      obtain ⟨m0h10, m1h10⟩ := id Mh10
      refine AQ.of (AS.if_eq_t (tgt := 32) eX9_load_27 (by decide) ⟨by decide, by decide⟩ (by decide)) ?_
      refine q_blk (lv2 := [(0, vr n), (1, vi len)]) (st2 := [vi 0, vr n]) kX9_load_32 rfl ?_
      refine q_pi eX9_load_34 fl_RX9_127 (fun q hq => by cases hq; exact Or.inl rfl) (Or.inl rfl) m0h10 (Nat.le_of_ble_eq_true rfl) (l2 := [0, 0, 0, tl, ps, er, ea, eo, 0, 0, 0, ud, g0, g1, g2, g3, ns, ne, se, 0]) rfl (fun h11 e12 => ?_)
      have k13 := am_at e12
      have k14 := (am_ne e12 (n + 2) (by omega)).trans m1h10
      have k15 := (am_ne e12 (n + 13) (by omega)).trans Kh10
      refine q_blk (lv2 := [(0, vr n), (1, vi len)]) (st2 := [vi len, vr n]) kX9_load_37 rfl ?_
      refine q_pi eX9_load_39 fl_RX9_130 (fun q hq => by cases hq; exact Or.inl rfl) (Or.inl rfl) k13 (Nat.le_of_ble_eq_true rfl) (l2 := [0, 0, 0, len, ps, er, ea, eo, 0, 0, 0, ud, g0, g1, g2, g3, ns, ne, se, 0]) rfl (fun h16 e17 => ?_)
      have k18 := am_at e17
      have k19 := (am_ne e17 (n + 2) (by omega)).trans k14
      have k20 := (am_ne e17 (n + 13) (by omega)).trans k15
      refine q_blk (lv2 := [(0, vr n), (1, vi len)]) (st2 := [vi 0, vr n]) kX9_load_42 rfl ?_
      refine q_pi eX9_load_44 fl_RX9_133 (fun q hq => by cases hq; exact Or.inl rfl) (Or.inl rfl) k18 (Nat.le_of_ble_eq_true rfl) (l2 := [0, 0, 0, len, 0, er, ea, eo, 0, 0, 0, ud, g0, g1, g2, g3, ns, ne, se, 0]) rfl (fun h21 e22 => ?_)
      have k23 := am_at e22
      have k24 := (am_ne e22 (n + 2) (by omega)).trans k19
      have k25 := (am_ne e22 (n + 13) (by omega)).trans k20
      refine q_blk (lv2 := [(0, vr n), (1, vi len)]) (st2 := [vi 0, vr n]) kX9_load_47 rfl ?_
      refine q_pi eX9_load_49 fl_RX9_139 (fun q hq => by cases hq; exact Or.inl rfl) (Or.inl rfl) k23 (Nat.le_of_ble_eq_true rfl) (l2 := [0, 0, 0, len, 0, 0, ea, eo, 0, 0, 0, ud, g0, g1, g2, g3, ns, ne, se, 0]) rfl (fun h26 e27 => ?_)
      have k28 := am_at e27
      have k29 := (am_ne e27 (n + 2) (by omega)).trans k24
      have k30 := (am_ne e27 (n + 13) (by omega)).trans k25
      refine q_blk (lv2 := [(0, vr n), (1, vi len)]) (st2 := [vi (-1), vr n]) kX9_load_52 rfl ?_
      refine q_pi eX9_load_54 fl_RX9_142 (fun q hq => by cases hq; exact Or.inl rfl) (Or.inl rfl) k28 (Nat.le_of_ble_eq_true rfl) (l2 := [0, 0, 0, len, 0, 0, (-1), eo, 0, 0, 0, ud, g0, g1, g2, g3, ns, ne, se, 0]) rfl (fun h31 e32 => ?_)
      have k33 := am_at e32
      have k34 := (am_ne e32 (n + 2) (by omega)).trans k29
      have k35 := (am_ne e32 (n + 13) (by omega)).trans k30
      refine q_blk (lv2 := [(0, vr n), (1, vi len)]) (st2 := [vi 0, vr n]) kX9_load_57 rfl ?_
      refine q_pi eX9_load_59 fl_RX9_173 (fun q hq => by cases hq; exact Or.inl rfl) (Or.inl rfl) k33 (Nat.le_of_ble_eq_true rfl) (l2 := [0, 0, 0, len, 0, 0, (-1), eo, 0, 0, 0, ud, g0, g1, g2, g3, ns, 0, se, 0]) rfl (fun h36 e37 => ?_)
      have k38 := am_at e37
      have k39 := (am_ne e37 (n + 2) (by omega)).trans k34
      have k40 := (am_ne e37 (n + 13) (by omega)).trans k35
      refine q_blk (lv2 := [(0, vr n), (1, vi len)]) (st2 := [vi 0, vr n]) kX9_load_62 rfl ?_
      refine q_pi eX9_load_64 fl_RX9_209 (fun q hq => by cases hq; exact Or.inl rfl) (Or.inl rfl) k38 (Nat.le_of_ble_eq_true rfl) (l2 := [0, 0, 0, len, 0, 0, (-1), eo, 0, 0, 0, ud, g0, g1, g2, g3, ns, 0, 0, 0]) rfl (fun h41 e42 => ?_)
      have k43 := am_at e42
      have k44 := (am_ne e42 (n + 2) (by omega)).trans k39
      have k45 := (am_ne e42 (n + 13) (by omega)).trans k40
      have M67 : MM h41 n 0 0 len 0 0 (-1) eo ud g0 g1 g2 g3 ns 0 0 D := ⟨k43, k44⟩
      have FF67 : am_fr _ h41 n (n + 1) := am_fr.tr (am_fr.tr (am_fr.tr (am_fr.tr (am_fr.tr (am_fr.tr (am_fr.st e12 (by omega) (by omega)) (am_fr.st e17 (by omega) (by omega))) (am_fr.st e22 (by omega) (by omega))) (am_fr.st e27 (by omega) (by omega))) (am_fr.st e32 (by omega) (by omega))) (am_fr.st e37 (by omega) (by omega))) (am_fr.st e42 (by omega) (by omega))
      have hlb : 0 ≤ len ∧ len ≤ bl := by omega
      obtain ⟨N, ⟨N0, N1⟩, hg, hp0⟩ := TG.mk (tx := tx) (kd := kd) (st := st) (vl := vl) (by omega) hlb.1 (hTK hlb.1 hlb.2)
      have hl : 0 ≤ len ∧ len ≤ 800 := by omega
      have hN : N ≤ 800 := by omega
      have hx : BX bf tx len := fun k k0 k1 => hbx k k0 (by omega)
      have hp : TP tx st N 0 0 := ⟨⟨by decide, N0⟩, by decide, hp0⟩
      have Vh41 : am_fr h h41 n (n + 14) := am_fr.tr Vh10 (am_fr.mo FF67 (by omega) (by omega))
      have Rh41 := Rh10.kept FF67 (by omega)
      have Kh41 := (FF67.2 (n + 13) (by omega)).trans Kh10
      obtain ⟨m0h41, m1h41⟩ := id M67
      refine q_blk (lv2 := [(0, vr n), (1, vi len)]) (st2 := [vr n]) kX9_load_67 rfl ?_
      refine q_gr eX9_load_68 fl_RX9_17 (Or.inr ⟨_, rfl⟩) m0h41 rfl ?_
      refine q_blk (lv2 := [(0, vr n), (1, vi len)]) (st2 := [vr n, vr (n + 2)]) kX9_load_71 rfl ?_
      refine q_gr eX9_load_72 fl_RX9_20 (Or.inr ⟨_, rfl⟩) m0h41 rfl ?_
      refine AQ.callSv (av := [vr (n + 2), vr (n + 3)]) (st := []) (c_X9_copy (a := (n + 2)) (b := (n + 3)) m1h41 Rh41.2.1 (by omega)) lk_RX9_245 (by decide) rfl rfl (Nat.le_of_ble_eq_true rfl) eX9_load_75 (fun h48 e47 => ?_)
      obtain ⟨Ch48, Fh48⟩ := e47
      have M78 := M67.kept Fh48 (by omega)
      have R78 := Rh41.old Ch48 Fh48
      have Vh48 : am_fr h h48 n (n + 14) := am_fr.tr Vh41 (am_fr.mo Fh48 (by omega) (by omega))
      have Kh48 := (Fh48.2 (n + 13) (by omega)).trans Kh41
      obtain ⟨m0h48, m1h48⟩ := id M78
      refine q_blk (lv2 := [(0, vr n), (1, vi len), (2, vi 0)]) (st2 := []) kX9_load_78 rfl ?_
      refine am_lp2 (I := fun (k : Int) (hh : AH) => (0 ≤ k ∧ k ≤ 1528) ∧ MM hh n 0 0 len 0 0 (-1) eo ud g0 g1 g2 g3 ns 0 0 (gm_cp (fun _ => 0) D k) ∧ am_fr h48 hh (n + 2) (n + 3)) (μ := fun (k : Int) (hh : AH) => (1528 - k).toNat) (G := fun (k : Int) (hh : AH) => AQ w m_X9_load 22 80 [(0, vr n), (1, vi len), (2, vi k)] [] hh (am_int (fun z h1 => ((¬ (0 ≤ len ∧ len ≤ bl) ∧ MA h1 n 1 bl eo ud bf rw D) ∨ ((0 ≤ len ∧ len ≤ bl) ∧ ((∃ e a D2, rD kd st vl = .inl (e, a) ∧ z = e ∧ gm_eq8 D D2 ∧ MA h1 n 0 0 a ud bf rw D2) ∨ (∃ D2 L E ud' rw', rD kd st vl = .inr (D2, L) ∧ z = D2 3 ∧ gm_same D2 E ∧ VD D2 ∧ E 4 = gm_hs L ∧ CE E (gm_ed (L.getD [])) ∧ (gm_ed (L.getD [])).length ≤ 1300 ∧ PU ud rw D ud' rw' ∧ (1 ≤ ud' ∧ ud' ≤ 8) ∧ MA h1 n 0 0 (-1) ud' bf rw' E)))) ∧ am_fr h h1 n (n + 14)))) ?_ 0 h48 (⟨⟨by omega, by omega⟩, by rw [gm_cp_0]; exact M78, am_fr.rf⟩)
      intro k hh hI50 ih49
      obtain ⟨⟨k0, k1⟩, hm9, hf9⟩ := hI50
      obtain ⟨m0', m1'⟩ := id hm9
      refine q_blk (lv2 := [(0, vr n), (1, vi len), (2, vi k)]) (st2 := [vi 1528, vi k]) kX9_load_80 rfl ?_
      refine AQ.ic_ge (tgt := 100) eX9_load_84 (by decide) (by first | assumption | exact ⟨by omega, by omega⟩) ⟨by decide, by decide⟩ (fun br51 => ?_) (fun br51 => ?_)
      · skip
        obtain ⟨E0, hE0⟩ : ∃ q, q = gm_cp (fun _ => 0) D 1528 := ⟨_, rfl⟩
        have hz0 : ∀ j, 0 ≤ j → j < 1528 → E0 j = 0 := fun j j0 j1 => by rw [hE0]; exact if_pos ⟨j0, j1⟩
        rw [show k = 1528 by omega, ← hE0] at hm9
        have Vhh : am_fr h hh n (n + 14) := am_fr.tr Vh48 (am_fr.mo hf9 (by omega) (by omega))
        have Rhh := R78.kept hf9 (by omega)
        have Khh := (hf9.2 (n + 13) (by omega)).trans Kh48
        obtain ⟨m0hh, m1hh⟩ := id hm9
        have hb100 := Rhh.1
        refine q_blk (lv2 := [(0, vr n), (1, vi len), (2, vi k)]) (st2 := [vr n]) kX9_load_100 rfl ?_
        refine AQ.of (AS.ldcS (i := 20) (by decide) ⟨rfl, rfl⟩ eX9_load_101) ?_
        refine AQ.callVi (av := [vr (w.2 20)]) (st := []) (c_X9_takeWord_g hm9 hb100 hl hx hg hp (w9 := 1) (by decide) (by decide)) lk_RX9_185 (by decide) rfl rfl hm9.ob ⟨_, rfl, rfl⟩ (Nat.le_of_ble_eq_true rfl) eX9_load_103 (fun z52 h54 e53 => ?_)
        rcases e53 with ⟨⟨rfl, Kh54, pxh54, Th54, Mh54⟩ | ⟨rfl, Kh54, Mh54⟩, Vh54⟩
        · skip
          have Yh54' : am_f2 hh h54 n := Vh54
          have hbh54 : h54.1 (n + 1) = some (100, 800, bf, am_N) := (Yh54'.2 (n + 1) (by omega) (by omega)).trans hb100
          obtain ⟨m0h54, m1h54⟩ := id Mh54
          rw [show gm_wc 1 = 3 from rfl] at Kh54
          refine AQ.of (AS.if_ne_t (tgt := 119) eX9_load_106 (by decide) ⟨by decide, by decide⟩ (by decide)) ?_
          refine q_blk (lv2 := [(0, vr n), (1, vi len), (2, vi k)]) (st2 := [vr n]) kX9_load_119 rfl ?_
          refine q_gr eX9_load_120 fl_RX9_17 (Or.inr ⟨_, rfl⟩) m0h54 rfl ?_
          refine q_blk (lv2 := [(0, vr n), (1, vi len), (2, vi k)]) (st2 := [vi 30, vi 2, vr n, vi 0, vr (n + 2)]) kX9_load_123 rfl ?_
          refine AQ.callVi (av := [vi 2, vi 30]) (st := [vi 0, vr (n + 2)]) (c_X9_number_g Mh54 hbh54 hl hx hg Th54 (lo := 2) (hi := 30) (by omega) (by omega) (by omega)) lk_RX9_197 (by decide) rfl rfl Mh54.ob ⟨_, rfl, rfl⟩ (Nat.le_of_ble_eq_true rfl) eX9_load_128 (fun z55 h57 e56 => ?_)
          rcases e56 with ⟨⟨pxh57, Kh57, K2h57, Th57, Mh57⟩ | ⟨pxh57, nh57, eh57, ah57, Kh57, Zh57, Mh57⟩, z0h57, z1h57, Vh57⟩
          · skip
            have Yh57' : am_f2 hh h57 n := Yh54'.tr Vh57
            have hbh57 : h57.1 (n + 1) = some (100, 800, bf, am_N) := (Yh57'.2 (n + 1) (by omega) (by omega)).trans hb100
            obtain ⟨m0h57, m1h57⟩ := id Mh57
            have NVh57 := rN_v Kh57
            refine q_is eX9_load_131 m1h57 (by omega) (by omega) (fun h58 e59 => ?_)
            have k60 := (am_ne e59 n (by omega)).trans m0h57
            have k61 := am_at e59
            have Mw62 : MM h58 n 0 0 len pxh57 0 (-1) eo ud g0 g1 g2 g3 (st (0 + 1)) 0 0 (am_uI E0 0 z55) := ⟨k60, k61⟩
            have Vw62 : am_f2 _ h58 n := (am_fr.st e59 (by omega) (by omega) : am_fr _ _ (n + 2) (n + 3)).f2d
            have Yh58' : am_f2 hh h58 n := Yh57'.tr Vw62
            have hbh58 : h58.1 (n + 1) = some (100, 800, bf, am_N) := (Yh58'.2 (n + 1) (by omega) (by omega)).trans hb100
            obtain ⟨m0h58, m1h58⟩ := id Mw62
            refine q_blk (lv2 := [(0, vr n), (1, vi len), (2, vi k)]) (st2 := [vr n]) kX9_load_132 rfl ?_
            refine q_gr eX9_load_133 fl_RX9_17 (Or.inr ⟨_, rfl⟩) m0h58 rfl ?_
            refine q_blk (lv2 := [(0, vr n), (1, vi len), (2, vi k)]) (st2 := [vi 30, vi 2, vr n, vi 1, vr (n + 2)]) kX9_load_136 rfl ?_
            refine AQ.callVi (av := [vi 2, vi 30]) (st := [vi 1, vr (n + 2)]) (c_X9_number_g Mw62 hbh58 hl hx hg Th57 (lo := 2) (hi := 30) (by omega) (by omega) (by omega)) lk_RX9_197 (by decide) rfl rfl Mw62.ob ⟨_, rfl, rfl⟩ (Nat.le_of_ble_eq_true rfl) eX9_load_141 (fun z63 h65 e64 => ?_)
            rcases e64 with ⟨⟨pxh65, Kh65, K2h65, Th65, Mh65⟩ | ⟨pxh65, nh65, eh65, ah65, Kh65, Zh65, Mh65⟩, z0h65, z1h65, Vh65⟩
            · skip
              have Yh65' : am_f2 hh h65 n := Yh58'.tr Vh65
              have hbh65 : h65.1 (n + 1) = some (100, 800, bf, am_N) := (Yh65'.2 (n + 1) (by omega) (by omega)).trans hb100
              obtain ⟨m0h65, m1h65⟩ := id Mh65
              have NVh65 := rN_v Kh65
              refine q_is eX9_load_144 m1h65 (by omega) (by omega) (fun h66 e67 => ?_)
              have k68 := (am_ne e67 n (by omega)).trans m0h65
              have k69 := am_at e67
              have Mw70 : MM h66 n 0 0 len pxh65 0 (-1) eo ud g0 g1 g2 g3 (st ((0 + 1) + 1)) 0 0 (am_uI (am_uI E0 0 z55) 1 z63) := ⟨k68, k69⟩
              have Vw70 : am_f2 _ h66 n := (am_fr.st e67 (by omega) (by omega) : am_fr _ _ (n + 2) (n + 3)).f2d
              have Yh66' : am_f2 hh h66 n := Yh65'.tr Vw70
              have hbh66 : h66.1 (n + 1) = some (100, 800, bf, am_N) := (Yh66'.2 (n + 1) (by omega) (by omega)).trans hb100
              obtain ⟨m0h66, m1h66⟩ := id Mw70
              refine q_blk (lv2 := [(0, vr n), (1, vi len), (2, vi k)]) (st2 := [vi 59, vr n]) kX9_load_145 rfl ?_
              refine AQ.callVv (av := [vi 59]) (st := []) (c_X9_expect_g Mw70 hbh66 hl hx hg Th65 (c := 59) (by decide)) lk_RX9_179 (by decide) rfl rfl Mw70.ob ⟨_, rfl, rfl⟩ (Nat.le_of_ble_eq_true rfl) eX9_load_148 (fun h73 e72 => ?_)
              rcases e72 with ⟨⟨Kh73, pxh73, Th73, Mh73⟩ | ⟨eh73, ah73, Kh73, Eh73, Mh73⟩, Vh73⟩
              · skip
                have Yh73' : am_f2 hh h73 n := Yh66'.tr Vh73
                have hbh73 : h73.1 (n + 1) = some (100, 800, bf, am_N) := (Yh73'.2 (n + 1) (by omega) (by omega)).trans hb100
                obtain ⟨m0h73, m1h73⟩ := id Mh73
                have hrD := rD_5 Kh54 Kh57 Kh65 Kh73
                have Z9 := gm_z_emp hz0 (x := z55) (y := z63) (by omega) (by omega)
                refine q_sub (lv2 := [(0, vr n)]) [0] rfl ?_
                refine am_lp5 (I := fun  (hz : AH) (D9 : Int → Int) (L9 : Option GL) (i9 : Int) (f9 : Nat) => rD kd st vl = rR kd st vl f9 D9 L9 i9 ∧ (4 ≤ i9 ∧ i9 ≤ N) ∧ N - i9 ≤ (f9 : Int) ∧ QG tx st N hz n 0 0 len (-1) eo ud D9 L9 i9 ∧ am_f2 hh hz n) (μ := fun  (hz : AH) (D9 : Int → Int) (L9 : Option GL) (i9 : Int) (f9 : Nat) => (N - i9).toNat) (G := fun  (hz : AH) (D9 : Int → Int) (L9 : Option GL) (i9 : Int) (f9 : Nat) => AQ w m_X9_load 22 151 [(0, vr n)] [] hz (am_int (fun z h1 => ((¬ (0 ≤ len ∧ len ≤ bl) ∧ MA h1 n 1 bl eo ud bf rw D) ∨ ((0 ≤ len ∧ len ≤ bl) ∧ ((∃ e a D2, rD kd st vl = .inl (e, a) ∧ z = e ∧ gm_eq8 D D2 ∧ MA h1 n 0 0 a ud bf rw D2) ∨ (∃ D2 L E ud' rw', rD kd st vl = .inr (D2, L) ∧ z = D2 3 ∧ gm_same D2 E ∧ VD D2 ∧ E 4 = gm_hs L ∧ CE E (gm_ed (L.getD [])) ∧ (gm_ed (L.getD [])).length ≤ 1300 ∧ PU ud rw D ud' rw' ∧ (1 ≤ ud' ∧ ud' ≤ 8) ∧ MA h1 n 0 0 (-1) ud' bf rw' E)))) ∧ am_fr h h1 n (n + 14)))) ?_ h73 (gm_emp z55 z63) none 4 800 (⟨hrD, ⟨by decide, Th73.1.2⟩, by omega, ⟨_, _, _, _, _, _, _, Z9.1, gm_emp_vd (by omega) (by omega), Z9.2.1, Z9.2.2, by decide, Th73, Mh73⟩, Yh73'⟩)
                intro hz D9 L9 i9 f9 hI75 ih74
                obtain ⟨hR9, ⟨i90, i91⟩, hf99, hQ9, hf9⟩ := hI75
                obtain ⟨ps9, a9, b9, c9, d9, ns9, E9, hs9, hV9, h49, hC9, hl9, hT9, hm9⟩ := hQ9
                obtain ⟨m0', m1'⟩ := id hm9
                have hb9 := (hf9.2 (n + 1) (by omega) (by omega)).trans hb100
                have hch9 := hg.ch hx hT9.1.1 hT9.1.2
                refine q_blk (lv2 := [(0, vr n)]) (st2 := [vr n]) kX9_load_151 rfl ?_
                refine q_Vi (av := []) (st := []) (c_X9_isGood_g hm9) lk_RX9_145 (by decide) rfl rfl hm9.ob ⟨_, rfl, rfl⟩ (Nat.le_of_ble_eq_true rfl) eX9_load_152 (fun z76 e77 => ?_)
                subst e77
                refine AQ.of (AS.if_eq_f eX9_load_155 ⟨by decide, by decide⟩ (by decide) (by decide)) ?_
                refine q_blk (lv2 := [(0, vr n)]) (st2 := [vr n]) kX9_load_158 rfl ?_
                refine AQ.callVi (av := []) (st := []) (c_X9_next hm9 hb9 hl hx hg hT9) lk_RX9_149 (by decide) rfl rfl hm9.ob ⟨_, rfl, rfl⟩ (Nat.le_of_ble_eq_true rfl) eX9_load_159 (fun z78 h80 e79 => ?_)
                obtain ⟨rfl, Mh80, Fh80⟩ := e79
                have Vh80 : am_f2 hh h80 n := hf9.tr (Fh80.f2)
                have hbh80 : h80.1 (n + 1) = some (100, 800, bf, am_N) := (Vh80.2 (n + 1) (by omega) (by omega)).trans hb100
                obtain ⟨m0h80, m1h80⟩ := id Mh80
                have Ph80 := hT9.at hg hl.1
                refine q_blk (lv2 := [(0, vr n)]) (st2 := [vi (-1), vi (gm_T bf len (st i9))]) kX9_load_162 rfl ?_
                refine AQ.ic_eq (tgt := 173) eX9_load_163 (by decide) (by first | assumption | exact ⟨by omega, by omega⟩) ⟨by decide, by decide⟩ (fun br81 => ?_) (fun br81 => ?_)
                · skip
                  refine q_blk (lv2 := [(0, vr n)]) (st2 := [vr n, vr n]) kX9_load_173 rfl ?_
                  refine q_gi eX9_load_175 fl_RX9_142 (Or.inl rfl) m0h80 (z := (-1)) rfl ?_
                  refine q_pi eX9_load_178 fl_RX9_13 (fun q hq => by cases hq; exact Or.inl rfl) (Or.inl rfl) m0h80 (Nat.le_of_ble_eq_true rfl) (l2 := [0, 0, 0, len, (st i9), 0, (-1), (-1), 0, 0, 0, ud, a9, b9, c9, d9, ns9, 0, (gm_hs L9), 0]) rfl (fun h82 e83 => ?_)
                  have k84 := am_at e83
                  have k85 := (am_ne e83 (n + 2) (by omega)).trans m1h80
                  have Mw86 : MM h82 n 0 0 len (st i9) 0 (-1) (-1) ud a9 b9 c9 d9 ns9 0 (gm_hs L9) E9 := ⟨k84, k85⟩
                  have Vw86 : am_f2 _ h82 n := (am_fr.st e83 (by omega) (by omega) : am_fr _ _ n (n + 1)).f2
                  have Yh82' : am_f2 hh h82 n := Vh80.tr Vw86
                  have hbh82 : h82.1 (n + 1) = some (100, 800, bf, am_N) := (Yh82'.2 (n + 1) (by omega) (by omega)).trans hb100
                  obtain ⟨m0h82, m1h82⟩ := id Mw86
                  have R181 := Rhh.f2 Yh82'
                  have V181 : am_fr h h82 n (n + 14) := am_fr.tr Vhh (Yh82').nn
                  have K181 := ((Yh82').2 (n + 13) (by omega) (by omega)).trans Khh
                  refine q_blk (lv2 := [(0, vr n)]) (st2 := [vr n]) kX9_load_181 rfl ?_
                  refine q_Vi (av := []) (st := []) (c_X9_isGood_g Mw86) lk_RX9_145 (by decide) rfl rfl Mw86.ob ⟨_, rfl, rfl⟩ (Nat.le_of_ble_eq_true rfl) eX9_load_182 (fun z87 e88 => ?_)
                  subst e88
                  refine AQ.of (AS.if_ne_t (tgt := 204) eX9_load_185 (by decide) ⟨by decide, by decide⟩ (by decide)) ?_
                  refine q_blk (lv2 := [(0, vr n)]) (st2 := [vr n, vr n]) kX9_load_204 rfl ?_
                  refine q_gr eX9_load_206 fl_RX9_20 (Or.inr ⟨_, rfl⟩) m0h82 rfl ?_
                  refine AQ.callVv (av := [vr (n + 3)]) (st := []) (c_X9_push Mw86 hu R181 (Or.inr rfl) R181.2.1) lk_RX9_254 (by decide) rfl rfl Mw86.ob ⟨_, rfl, rfl⟩ (Nat.le_of_ble_eq_true rfl) eX9_load_209 (fun h91 e90 => ?_)
                  obtain ⟨ud9, rw9, P9, U9, Mh91, Rh91, Fh91, Zh91⟩ := e90
                  have Vh91 : am_fr h h91 n (n + 14) := am_fr.tr V181 (am_fr.mo Fh91 (by omega) (by omega))
                  have Kh91 := (Fh91.2 (n + 13) (by omega)).trans K181
                  obtain ⟨m0h91, m1h91⟩ := id Mh91
                  refine q_blk (lv2 := [(0, vr n)]) (st2 := [vr n]) kX9_load_212 rfl ?_
                  refine q_gr eX9_load_213 fl_RX9_17 (Or.inr ⟨_, rfl⟩) m0h91 rfl ?_
                  refine q_blk (lv2 := [(0, vr n)]) (st2 := [vi 3, vr (n + 2)]) kX9_load_216 rfl ?_
                  refine q_ia eX9_load_217 m1h91 (by decide) (by omega) (by omega) (z := (E9 3)) rfl ?_
                  exact q_ri rfl eX9_load_218 ⟨(E9 3), rfl, Or.inr ⟨hlb, Or.inr ⟨D9, L9, E9, ud9, rw9, hR9.trans (rR_e (Or.inr (hch9.2.2.2.2.1.mpr (by omega)))), hs9.2.2.2.1, hs9, hV9, h49, hC9, hl9, P9.of (gm_cp_8 _ _), U9, ⟨_, _, _, _, _, _, _, _, _, _, _, _, _, Mh91, Rh91, Kh91⟩⟩⟩, Vh91⟩
                · skip
                  have hk0 : kd i9 ≠ 0 := fun c => by have := hch9.2.2.2.2.1.mp c; omega
                  have hiN : i9 < N := by
                    rcases hg i9 hT9.1.1 hT9.1.2 with ⟨c1, c2, c3⟩ | ⟨c1, c2⟩
                    · exact absurd c2 hk0
                    · exact c1
                  refine q_blk (lv2 := [(0, vr n)]) (st2 := [vr n]) kX9_load_166 rfl ?_
                  refine AQ.callVv (av := []) (st := []) (c_X9_statement hbh80 hl hx hg hN (i := i9) ⟨_, _, _, _, _, _, _, hs9, hV9, h49, hC9, hl9, Ph80, Mh80⟩) lk_RX9_251 (by decide) rfl rfl Mh80.ob ⟨_, rfl, rfl⟩ (Nat.le_of_ble_eq_true rfl) eX9_load_167 (fun h94 e93 => ?_)
                  rcases e93 with ⟨⟨Dh94, Lh94, ih94, Kh94, jh94, Qh94⟩ | ⟨eh94, ah94, Kh94, Qh94⟩, Vh94⟩
                  · skip
                    have Yh94' : am_f2 hh h94 n := Vh80.tr Vh94
                    refine q_goto (tgt := 151) eX9_load_170 (by decide) ?_
                    exact ih74 h94 Dh94 Lh94 ih94 (f9 - 1) (⟨by rw [hR9, rR_x (by omega) hk0, rB_r Kh94], ⟨by omega, by obtain ⟨_, _, _, _, _, _, _, _, _, _, _, _, q9, _⟩ := Qh94; exact q9.1.2⟩, by omega, Qh94, Yh94'⟩) (by have q9 := hT9.1.2; omega)
                  · skip
                    obtain ⟨Zh94, psh94, gah94, gbh94, gch94, gdh94, nsh94, neh94, seh94, Eh94, Mh94⟩ := Qh94
                    have Yh94' : am_f2 hh h94 n := Vh80.tr Vh94
                    have hbh94 : h94.1 (n + 1) = some (100, 800, bf, am_N) := (Yh94'.2 (n + 1) (by omega) (by omega)).trans hb100
                    obtain ⟨m0h94, m1h94⟩ := id Mh94
                    have hRX : rD kd st vl = .inl (eh94, ah94) := by rw [hR9, rR_x (by omega) hk0, rB_l Kh94]
                    refine q_goto (tgt := 151) eX9_load_170 (by decide) ?_
                    refine q_blk (lv2 := [(0, vr n)]) (st2 := [vr n]) kX9_load_151 rfl ?_
                    refine q_Vi (av := []) (st := []) (c_X9_isGood_b Mh94 Zh94) lk_RX9_145 (by decide) rfl rfl Mh94.ob ⟨_, rfl, rfl⟩ (Nat.le_of_ble_eq_true rfl) eX9_load_152 (fun z95 e96 => ?_)
                    subst e96
                    refine AQ.of (AS.if_eq_t (tgt := 173) eX9_load_155 (by decide) ⟨by decide, by decide⟩ (by decide)) ?_
                    refine q_blk (lv2 := [(0, vr n)]) (st2 := [vr n, vr n]) kX9_load_173 rfl ?_
                    refine q_gi eX9_load_175 fl_RX9_142 (Or.inl rfl) m0h94 (z := ah94) rfl ?_
                    refine q_pi eX9_load_178 fl_RX9_13 (fun q hq => by cases hq; exact Or.inl rfl) (Or.inl rfl) m0h94 (Nat.le_of_ble_eq_true rfl) (l2 := [0, 0, 0, len, psh94, eh94, ah94, ah94, 0, 0, 0, ud, gah94, gbh94, gch94, gdh94, nsh94, neh94, seh94, 0]) rfl (fun h97 e98 => ?_)
                    have k99 := am_at e98
                    have k100 := (am_ne e98 (n + 2) (by omega)).trans m1h94
                    have Mw101 : MM h97 n 0 0 len psh94 eh94 ah94 ah94 ud gah94 gbh94 gch94 gdh94 nsh94 neh94 seh94 Eh94 := ⟨k99, k100⟩
                    have Vw101 : am_f2 _ h97 n := (am_fr.st e98 (by omega) (by omega) : am_fr _ _ n (n + 1)).f2
                    have Yh97' : am_f2 hh h97 n := Yh94'.tr Vw101
                    have hbh97 : h97.1 (n + 1) = some (100, 800, bf, am_N) := (Yh97'.2 (n + 1) (by omega) (by omega)).trans hb100
                    obtain ⟨m0h97, m1h97⟩ := id Mw101
                    have R181 := Rhh.f2 Yh97'
                    have V181 : am_fr h h97 n (n + 14) := am_fr.tr Vhh (Yh97').nn
                    have K181 := ((Yh97').2 (n + 13) (by omega) (by omega)).trans Khh
                    refine q_blk (lv2 := [(0, vr n)]) (st2 := [vr n]) kX9_load_181 rfl ?_
                    refine q_Vi (av := []) (st := []) (c_X9_isGood_b Mw101 Zh94) lk_RX9_145 (by decide) rfl rfl Mw101.ob ⟨_, rfl, rfl⟩ (Nat.le_of_ble_eq_true rfl) eX9_load_182 (fun z102 e103 => ?_)
                    subst e103
                    refine AQ.of (AS.if_ne_f eX9_load_185 ⟨by decide, by decide⟩ (by decide) (by decide)) ?_
                    refine q_blk (lv2 := [(0, vr n)]) (st2 := [vr n]) kX9_load_188 rfl ?_
                    refine q_gr eX9_load_189 fl_RX9_20 (Or.inr ⟨_, rfl⟩) m0h97 rfl ?_
                    refine q_blk (lv2 := [(0, vr n)]) (st2 := [vr n, vr (n + 3)]) kX9_load_192 rfl ?_
                    refine q_gr eX9_load_193 fl_RX9_17 (Or.inr ⟨_, rfl⟩) m0h97 rfl ?_
                    refine AQ.callSv (av := [vr (n + 3), vr (n + 2)]) (st := []) (c_X9_copy (a := (n + 3)) (b := (n + 2)) R181.2.1 m1h97 (by omega)) lk_RX9_245 (by decide) rfl rfl (Nat.le_of_ble_eq_true rfl) eX9_load_196 (fun h106 e105 => ?_)
                    obtain ⟨Ch106, Fh106⟩ := e105
                    have M199 : MM h106 n 0 0 len psh94 eh94 ah94 ah94 ud gah94 gbh94 gch94 gdh94 nsh94 neh94 seh94 (gm_cp (gm_cp D od 1528) Eh94 1528) := ⟨(Fh106.2 n (by omega)).trans m0h97, Ch106⟩
                    have Vh106 : am_fr h h106 n (n + 14) := am_fr.tr V181 (am_fr.mo Fh106 (by omega) (by omega))
                    have Rh106 := R181.kept Fh106 (by omega)
                    have Kh106 := (Fh106.2 (n + 13) (by omega)).trans K181
                    obtain ⟨m0h106, m1h106⟩ := id M199
                    refine q_blk (lv2 := [(0, vr n)]) (st2 := [vr n]) kX9_load_199 rfl ?_
                    refine q_gi eX9_load_200 fl_RX9_139 (Or.inl rfl) m0h106 (z := eh94) rfl ?_
                    exact q_ri rfl eX9_load_203 ⟨eh94, rfl, Or.inr ⟨hlb, Or.inl ⟨_, _, _, hRX, rfl, (gm_cp_8 _ _).tr (gm_cp_8 _ _), ⟨_, _, _, _, _, _, _, _, _, _, _, _, _, M199, Rh106, Kh106⟩⟩⟩, Vh106⟩
              · skip
                have Yh73' : am_f2 hh h73 n := Yh66'.tr Vh73
                have hbh73 : h73.1 (n + 1) = some (100, 800, bf, am_N) := (Yh73'.2 (n + 1) (by omega) (by omega)).trans hb100
                obtain ⟨m0h73, m1h73⟩ := id Mh73
                have Zh73 : eh73 ≠ 0 ∧ am_r eh73 := by rw [Eh73]; exact ⟨by decide, by decide, by decide⟩
                refine q_blk (lv2 := [(0, vr n), (1, vi len), (2, vi k)]) (st2 := [vr n]) kX9_load_151 rfl ?_
                refine q_Vi (av := []) (st := []) (c_X9_isGood_b Mh73 Zh73) lk_RX9_145 (by decide) rfl rfl Mh73.ob ⟨_, rfl, rfl⟩ (Nat.le_of_ble_eq_true rfl) eX9_load_152 (fun z107 e108 => ?_)
                subst e108
                refine AQ.of (AS.if_eq_t (tgt := 173) eX9_load_155 (by decide) ⟨by decide, by decide⟩ (by decide)) ?_
                refine q_blk (lv2 := [(0, vr n), (1, vi len), (2, vi k)]) (st2 := [vr n, vr n]) kX9_load_173 rfl ?_
                refine q_gi eX9_load_175 fl_RX9_142 (Or.inl rfl) m0h73 (z := ah73) rfl ?_
                refine q_pi eX9_load_178 fl_RX9_13 (fun q hq => by cases hq; exact Or.inl rfl) (Or.inl rfl) m0h73 (Nat.le_of_ble_eq_true rfl) (l2 := [0, 0, 0, len, (st (((0 + 1) + 1) + 1)), eh73, ah73, ah73, 0, 0, 0, ud, g0, g1, g2, g3, (st ((0 + 1) + 1)), 0, 0, 0]) rfl (fun h109 e110 => ?_)
                have k111 := am_at e110
                have k112 := (am_ne e110 (n + 2) (by omega)).trans m1h73
                have Mw113 : MM h109 n 0 0 len (st (((0 + 1) + 1) + 1)) eh73 ah73 ah73 ud g0 g1 g2 g3 (st ((0 + 1) + 1)) 0 0 (am_uI (am_uI E0 0 z55) 1 z63) := ⟨k111, k112⟩
                have Vw113 : am_f2 _ h109 n := (am_fr.st e110 (by omega) (by omega) : am_fr _ _ n (n + 1)).f2
                have Yh109' : am_f2 hh h109 n := Yh73'.tr Vw113
                have hbh109 : h109.1 (n + 1) = some (100, 800, bf, am_N) := (Yh109'.2 (n + 1) (by omega) (by omega)).trans hb100
                obtain ⟨m0h109, m1h109⟩ := id Mw113
                have R181 := Rhh.f2 Yh109'
                have V181 : am_fr h h109 n (n + 14) := am_fr.tr Vhh (Yh109').nn
                have K181 := ((Yh109').2 (n + 13) (by omega) (by omega)).trans Khh
                refine q_blk (lv2 := [(0, vr n), (1, vi len), (2, vi k)]) (st2 := [vr n]) kX9_load_181 rfl ?_
                refine q_Vi (av := []) (st := []) (c_X9_isGood_b Mw113 Zh73) lk_RX9_145 (by decide) rfl rfl Mw113.ob ⟨_, rfl, rfl⟩ (Nat.le_of_ble_eq_true rfl) eX9_load_182 (fun z114 e115 => ?_)
                subst e115
                refine AQ.of (AS.if_ne_f eX9_load_185 ⟨by decide, by decide⟩ (by decide) (by decide)) ?_
                refine q_blk (lv2 := [(0, vr n), (1, vi len), (2, vi k)]) (st2 := [vr n]) kX9_load_188 rfl ?_
                refine q_gr eX9_load_189 fl_RX9_20 (Or.inr ⟨_, rfl⟩) m0h109 rfl ?_
                refine q_blk (lv2 := [(0, vr n), (1, vi len), (2, vi k)]) (st2 := [vr n, vr (n + 3)]) kX9_load_192 rfl ?_
                refine q_gr eX9_load_193 fl_RX9_17 (Or.inr ⟨_, rfl⟩) m0h109 rfl ?_
                refine AQ.callSv (av := [vr (n + 3), vr (n + 2)]) (st := []) (c_X9_copy (a := (n + 3)) (b := (n + 2)) R181.2.1 m1h109 (by omega)) lk_RX9_245 (by decide) rfl rfl (Nat.le_of_ble_eq_true rfl) eX9_load_196 (fun h118 e117 => ?_)
                obtain ⟨Ch118, Fh118⟩ := e117
                have M199 : MM h118 n 0 0 len (st (((0 + 1) + 1) + 1)) eh73 ah73 ah73 ud g0 g1 g2 g3 (st ((0 + 1) + 1)) 0 0 (gm_cp (gm_cp D od 1528) (am_uI (am_uI E0 0 z55) 1 z63) 1528) := ⟨(Fh118.2 n (by omega)).trans m0h109, Ch118⟩
                have Vh118 : am_fr h h118 n (n + 14) := am_fr.tr V181 (am_fr.mo Fh118 (by omega) (by omega))
                have Rh118 := R181.kept Fh118 (by omega)
                have Kh118 := (Fh118.2 (n + 13) (by omega)).trans K181
                obtain ⟨m0h118, m1h118⟩ := id M199
                refine q_blk (lv2 := [(0, vr n), (1, vi len), (2, vi k)]) (st2 := [vr n]) kX9_load_199 rfl ?_
                refine q_gi eX9_load_200 fl_RX9_139 (Or.inl rfl) m0h118 (z := eh73) rfl ?_
                exact q_ri rfl eX9_load_203 ⟨eh73, rfl, Or.inr ⟨hlb, Or.inl ⟨_, _, _, rD_4 Kh54 Kh57 Kh65 Kh73, rfl, (gm_cp_8 _ _).tr (gm_cp_8 _ _), ⟨_, _, _, _, _, _, _, _, _, _, _, _, _, M199, Rh118, Kh118⟩⟩⟩, Vh118⟩
            · skip
              have Yh65' : am_f2 hh h65 n := Yh58'.tr Vh65
              have hbh65 : h65.1 (n + 1) = some (100, 800, bf, am_N) := (Yh65'.2 (n + 1) (by omega) (by omega)).trans hb100
              obtain ⟨m0h65, m1h65⟩ := id Mh65
              refine q_is eX9_load_144 m1h65 (by omega) (by omega) (fun h119 e120 => ?_)
              have k121 := (am_ne e120 n (by omega)).trans m0h65
              have k122 := am_at e120
              have Mw123 : MM h119 n 0 0 len pxh65 eh65 ah65 eo ud g0 g1 g2 g3 nh65 0 0 (am_uI (am_uI E0 0 z55) 1 z63) := ⟨k121, k122⟩
              have Vw123 : am_f2 _ h119 n := (am_fr.st e120 (by omega) (by omega) : am_fr _ _ (n + 2) (n + 3)).f2d
              have Yh119' : am_f2 hh h119 n := Yh65'.tr Vw123
              have hbh119 : h119.1 (n + 1) = some (100, 800, bf, am_N) := (Yh119'.2 (n + 1) (by omega) (by omega)).trans hb100
              obtain ⟨m0h119, m1h119⟩ := id Mw123
              refine q_blk (lv2 := [(0, vr n), (1, vi len), (2, vi k)]) (st2 := [vi 59, vr n]) kX9_load_145 rfl ?_
              refine AQ.callVv (av := [vi 59]) (st := []) (c_X9_expect_b Mw123 Zh65 (c := 59)) lk_RX9_179 (by decide) rfl rfl Mw123.ob ⟨_, rfl, rfl⟩ (Nat.le_of_ble_eq_true rfl) eX9_load_148 (fun h126 e125 => ?_)
              subst e125
              refine q_blk (lv2 := [(0, vr n), (1, vi len), (2, vi k)]) (st2 := [vr n]) kX9_load_151 rfl ?_
              refine q_Vi (av := []) (st := []) (c_X9_isGood_b Mw123 Zh65) lk_RX9_145 (by decide) rfl rfl Mw123.ob ⟨_, rfl, rfl⟩ (Nat.le_of_ble_eq_true rfl) eX9_load_152 (fun z127 e128 => ?_)
              subst e128
              refine AQ.of (AS.if_eq_t (tgt := 173) eX9_load_155 (by decide) ⟨by decide, by decide⟩ (by decide)) ?_
              refine q_blk (lv2 := [(0, vr n), (1, vi len), (2, vi k)]) (st2 := [vr n, vr n]) kX9_load_173 rfl ?_
              refine q_gi eX9_load_175 fl_RX9_142 (Or.inl rfl) m0h119 (z := ah65) rfl ?_
              refine q_pi eX9_load_178 fl_RX9_13 (fun q hq => by cases hq; exact Or.inl rfl) (Or.inl rfl) m0h119 (Nat.le_of_ble_eq_true rfl) (l2 := [0, 0, 0, len, pxh65, eh65, ah65, ah65, 0, 0, 0, ud, g0, g1, g2, g3, nh65, 0, 0, 0]) rfl (fun h129 e130 => ?_)
              have k131 := am_at e130
              have k132 := (am_ne e130 (n + 2) (by omega)).trans m1h119
              have Mw133 : MM h129 n 0 0 len pxh65 eh65 ah65 ah65 ud g0 g1 g2 g3 nh65 0 0 (am_uI (am_uI E0 0 z55) 1 z63) := ⟨k131, k132⟩
              have Vw133 : am_f2 _ h129 n := (am_fr.st e130 (by omega) (by omega) : am_fr _ _ n (n + 1)).f2
              have Yh129' : am_f2 hh h129 n := Yh119'.tr Vw133
              have hbh129 : h129.1 (n + 1) = some (100, 800, bf, am_N) := (Yh129'.2 (n + 1) (by omega) (by omega)).trans hb100
              obtain ⟨m0h129, m1h129⟩ := id Mw133
              have R181 := Rhh.f2 Yh129'
              have V181 : am_fr h h129 n (n + 14) := am_fr.tr Vhh (Yh129').nn
              have K181 := ((Yh129').2 (n + 13) (by omega) (by omega)).trans Khh
              refine q_blk (lv2 := [(0, vr n), (1, vi len), (2, vi k)]) (st2 := [vr n]) kX9_load_181 rfl ?_
              refine q_Vi (av := []) (st := []) (c_X9_isGood_b Mw133 Zh65) lk_RX9_145 (by decide) rfl rfl Mw133.ob ⟨_, rfl, rfl⟩ (Nat.le_of_ble_eq_true rfl) eX9_load_182 (fun z134 e135 => ?_)
              subst e135
              refine AQ.of (AS.if_ne_f eX9_load_185 ⟨by decide, by decide⟩ (by decide) (by decide)) ?_
              refine q_blk (lv2 := [(0, vr n), (1, vi len), (2, vi k)]) (st2 := [vr n]) kX9_load_188 rfl ?_
              refine q_gr eX9_load_189 fl_RX9_20 (Or.inr ⟨_, rfl⟩) m0h129 rfl ?_
              refine q_blk (lv2 := [(0, vr n), (1, vi len), (2, vi k)]) (st2 := [vr n, vr (n + 3)]) kX9_load_192 rfl ?_
              refine q_gr eX9_load_193 fl_RX9_17 (Or.inr ⟨_, rfl⟩) m0h129 rfl ?_
              refine AQ.callSv (av := [vr (n + 3), vr (n + 2)]) (st := []) (c_X9_copy (a := (n + 3)) (b := (n + 2)) R181.2.1 m1h129 (by omega)) lk_RX9_245 (by decide) rfl rfl (Nat.le_of_ble_eq_true rfl) eX9_load_196 (fun h138 e137 => ?_)
              obtain ⟨Ch138, Fh138⟩ := e137
              have M199 : MM h138 n 0 0 len pxh65 eh65 ah65 ah65 ud g0 g1 g2 g3 nh65 0 0 (gm_cp (gm_cp D od 1528) (am_uI (am_uI E0 0 z55) 1 z63) 1528) := ⟨(Fh138.2 n (by omega)).trans m0h129, Ch138⟩
              have Vh138 : am_fr h h138 n (n + 14) := am_fr.tr V181 (am_fr.mo Fh138 (by omega) (by omega))
              have Rh138 := R181.kept Fh138 (by omega)
              have Kh138 := (Fh138.2 (n + 13) (by omega)).trans K181
              obtain ⟨m0h138, m1h138⟩ := id M199
              refine q_blk (lv2 := [(0, vr n), (1, vi len), (2, vi k)]) (st2 := [vr n]) kX9_load_199 rfl ?_
              refine q_gi eX9_load_200 fl_RX9_139 (Or.inl rfl) m0h138 (z := eh65) rfl ?_
              exact q_ri rfl eX9_load_203 ⟨eh65, rfl, Or.inr ⟨hlb, Or.inl ⟨_, _, _, rD_3 Kh54 Kh57 Kh65, rfl, (gm_cp_8 _ _).tr (gm_cp_8 _ _), ⟨_, _, _, _, _, _, _, _, _, _, _, _, _, M199, Rh138, Kh138⟩⟩⟩, Vh138⟩
          · skip
            have Yh57' : am_f2 hh h57 n := Yh54'.tr Vh57
            have hbh57 : h57.1 (n + 1) = some (100, 800, bf, am_N) := (Yh57'.2 (n + 1) (by omega) (by omega)).trans hb100
            obtain ⟨m0h57, m1h57⟩ := id Mh57
            refine q_is eX9_load_131 m1h57 (by omega) (by omega) (fun h139 e140 => ?_)
            have k141 := (am_ne e140 n (by omega)).trans m0h57
            have k142 := am_at e140
            have Mw143 : MM h139 n 0 0 len pxh57 eh57 ah57 eo ud g0 g1 g2 g3 nh57 0 0 (am_uI E0 0 z55) := ⟨k141, k142⟩
            have Vw143 : am_f2 _ h139 n := (am_fr.st e140 (by omega) (by omega) : am_fr _ _ (n + 2) (n + 3)).f2d
            have Yh139' : am_f2 hh h139 n := Yh57'.tr Vw143
            have hbh139 : h139.1 (n + 1) = some (100, 800, bf, am_N) := (Yh139'.2 (n + 1) (by omega) (by omega)).trans hb100
            obtain ⟨m0h139, m1h139⟩ := id Mw143
            refine q_blk (lv2 := [(0, vr n), (1, vi len), (2, vi k)]) (st2 := [vr n]) kX9_load_132 rfl ?_
            refine q_gr eX9_load_133 fl_RX9_17 (Or.inr ⟨_, rfl⟩) m0h139 rfl ?_
            refine q_blk (lv2 := [(0, vr n), (1, vi len), (2, vi k)]) (st2 := [vi 30, vi 2, vr n, vi 1, vr (n + 2)]) kX9_load_136 rfl ?_
            refine q_Vi (av := [vi 2, vi 30]) (st := [vi 1, vr (n + 2)]) (c_X9_number_b Mw143 Zh57 (lo := 2) (hi := 30)) lk_RX9_197 (by decide) rfl rfl Mw143.ob ⟨_, rfl, rfl⟩ (Nat.le_of_ble_eq_true rfl) eX9_load_141 (fun z144 e145 => ?_)
            subst e145
            refine q_is eX9_load_144 m1h139 (by omega) (by omega) (fun h146 e147 => ?_)
            have k148 := (am_ne e147 n (by omega)).trans m0h139
            have k149 := am_at e147
            have Mw150 : MM h146 n 0 0 len pxh57 eh57 ah57 eo ud g0 g1 g2 g3 nh57 0 0 (am_uI (am_uI E0 0 z55) 1 0) := ⟨k148, k149⟩
            have Vw150 : am_f2 _ h146 n := (am_fr.st e147 (by omega) (by omega) : am_fr _ _ (n + 2) (n + 3)).f2d
            have Yh146' : am_f2 hh h146 n := Yh139'.tr Vw150
            have hbh146 : h146.1 (n + 1) = some (100, 800, bf, am_N) := (Yh146'.2 (n + 1) (by omega) (by omega)).trans hb100
            obtain ⟨m0h146, m1h146⟩ := id Mw150
            refine q_blk (lv2 := [(0, vr n), (1, vi len), (2, vi k)]) (st2 := [vi 59, vr n]) kX9_load_145 rfl ?_
            refine AQ.callVv (av := [vi 59]) (st := []) (c_X9_expect_b Mw150 Zh57 (c := 59)) lk_RX9_179 (by decide) rfl rfl Mw150.ob ⟨_, rfl, rfl⟩ (Nat.le_of_ble_eq_true rfl) eX9_load_148 (fun h153 e152 => ?_)
            subst e152
            refine q_blk (lv2 := [(0, vr n), (1, vi len), (2, vi k)]) (st2 := [vr n]) kX9_load_151 rfl ?_
            refine q_Vi (av := []) (st := []) (c_X9_isGood_b Mw150 Zh57) lk_RX9_145 (by decide) rfl rfl Mw150.ob ⟨_, rfl, rfl⟩ (Nat.le_of_ble_eq_true rfl) eX9_load_152 (fun z154 e155 => ?_)
            subst e155
            refine AQ.of (AS.if_eq_t (tgt := 173) eX9_load_155 (by decide) ⟨by decide, by decide⟩ (by decide)) ?_
            refine q_blk (lv2 := [(0, vr n), (1, vi len), (2, vi k)]) (st2 := [vr n, vr n]) kX9_load_173 rfl ?_
            refine q_gi eX9_load_175 fl_RX9_142 (Or.inl rfl) m0h146 (z := ah57) rfl ?_
            refine q_pi eX9_load_178 fl_RX9_13 (fun q hq => by cases hq; exact Or.inl rfl) (Or.inl rfl) m0h146 (Nat.le_of_ble_eq_true rfl) (l2 := [0, 0, 0, len, pxh57, eh57, ah57, ah57, 0, 0, 0, ud, g0, g1, g2, g3, nh57, 0, 0, 0]) rfl (fun h156 e157 => ?_)
            have k158 := am_at e157
            have k159 := (am_ne e157 (n + 2) (by omega)).trans m1h146
            have Mw160 : MM h156 n 0 0 len pxh57 eh57 ah57 ah57 ud g0 g1 g2 g3 nh57 0 0 (am_uI (am_uI E0 0 z55) 1 0) := ⟨k158, k159⟩
            have Vw160 : am_f2 _ h156 n := (am_fr.st e157 (by omega) (by omega) : am_fr _ _ n (n + 1)).f2
            have Yh156' : am_f2 hh h156 n := Yh146'.tr Vw160
            have hbh156 : h156.1 (n + 1) = some (100, 800, bf, am_N) := (Yh156'.2 (n + 1) (by omega) (by omega)).trans hb100
            obtain ⟨m0h156, m1h156⟩ := id Mw160
            have R181 := Rhh.f2 Yh156'
            have V181 : am_fr h h156 n (n + 14) := am_fr.tr Vhh (Yh156').nn
            have K181 := ((Yh156').2 (n + 13) (by omega) (by omega)).trans Khh
            refine q_blk (lv2 := [(0, vr n), (1, vi len), (2, vi k)]) (st2 := [vr n]) kX9_load_181 rfl ?_
            refine q_Vi (av := []) (st := []) (c_X9_isGood_b Mw160 Zh57) lk_RX9_145 (by decide) rfl rfl Mw160.ob ⟨_, rfl, rfl⟩ (Nat.le_of_ble_eq_true rfl) eX9_load_182 (fun z161 e162 => ?_)
            subst e162
            refine AQ.of (AS.if_ne_f eX9_load_185 ⟨by decide, by decide⟩ (by decide) (by decide)) ?_
            refine q_blk (lv2 := [(0, vr n), (1, vi len), (2, vi k)]) (st2 := [vr n]) kX9_load_188 rfl ?_
            refine q_gr eX9_load_189 fl_RX9_20 (Or.inr ⟨_, rfl⟩) m0h156 rfl ?_
            refine q_blk (lv2 := [(0, vr n), (1, vi len), (2, vi k)]) (st2 := [vr n, vr (n + 3)]) kX9_load_192 rfl ?_
            refine q_gr eX9_load_193 fl_RX9_17 (Or.inr ⟨_, rfl⟩) m0h156 rfl ?_
            refine AQ.callSv (av := [vr (n + 3), vr (n + 2)]) (st := []) (c_X9_copy (a := (n + 3)) (b := (n + 2)) R181.2.1 m1h156 (by omega)) lk_RX9_245 (by decide) rfl rfl (Nat.le_of_ble_eq_true rfl) eX9_load_196 (fun h165 e164 => ?_)
            obtain ⟨Ch165, Fh165⟩ := e164
            have M199 : MM h165 n 0 0 len pxh57 eh57 ah57 ah57 ud g0 g1 g2 g3 nh57 0 0 (gm_cp (gm_cp D od 1528) (am_uI (am_uI E0 0 z55) 1 0) 1528) := ⟨(Fh165.2 n (by omega)).trans m0h156, Ch165⟩
            have Vh165 : am_fr h h165 n (n + 14) := am_fr.tr V181 (am_fr.mo Fh165 (by omega) (by omega))
            have Rh165 := R181.kept Fh165 (by omega)
            have Kh165 := (Fh165.2 (n + 13) (by omega)).trans K181
            obtain ⟨m0h165, m1h165⟩ := id M199
            refine q_blk (lv2 := [(0, vr n), (1, vi len), (2, vi k)]) (st2 := [vr n]) kX9_load_199 rfl ?_
            refine q_gi eX9_load_200 fl_RX9_139 (Or.inl rfl) m0h165 (z := eh57) rfl ?_
            exact q_ri rfl eX9_load_203 ⟨eh57, rfl, Or.inr ⟨hlb, Or.inl ⟨_, _, _, rD_2 Kh54 Kh57, rfl, (gm_cp_8 _ _).tr (gm_cp_8 _ _), ⟨_, _, _, _, _, _, _, _, _, _, _, _, _, M199, Rh165, Kh165⟩⟩⟩, Vh165⟩
        · skip
          have Yh54' : am_f2 hh h54 n := Vh54
          have hbh54 : h54.1 (n + 1) = some (100, 800, bf, am_N) := (Yh54'.2 (n + 1) (by omega) (by omega)).trans hb100
          obtain ⟨m0h54, m1h54⟩ := id Mh54
          have Ph54 := hp.at hg hl.1
          rw [show gm_wc 1 = 3 from rfl] at Kh54
          refine AQ.of (AS.if_ne_f eX9_load_106 ⟨by decide, by decide⟩ (by decide) (by decide)) ?_
          refine q_blk (lv2 := [(0, vr n), (1, vi len), (2, vi k)]) (st2 := [vr n, vi (-2), vr n]) kX9_load_109 rfl ?_
          refine q_gi eX9_load_113 fl_RX9_133 (Or.inl rfl) m0h54 (z := (st 0)) rfl ?_
          refine AQ.callVv (av := [vi (-2), vi (st 0)]) (st := []) (c_X9_report_g Mh54 (k := (-2)) (a := (st 0))) lk_RX9_162 (by decide) rfl rfl Mh54.ob ⟨_, rfl, rfl⟩ (Nat.le_of_ble_eq_true rfl) eX9_load_116 (fun h168 e167 => ?_)
          obtain ⟨Mh168, Fh168⟩ := e167
          have Vh168 : am_f2 hh h168 n := Yh54'.tr (Fh168.f2)
          have hbh168 : h168.1 (n + 1) = some (100, 800, bf, am_N) := (Vh168.2 (n + 1) (by omega) (by omega)).trans hb100
          obtain ⟨m0h168, m1h168⟩ := id Mh168
          have Yh168 : ((-2) : Int) ≠ 0 ∧ am_r (-2) := ⟨by decide, by decide, by decide⟩
          refine q_blk (lv2 := [(0, vr n), (1, vi len), (2, vi k)]) (st2 := [vr n]) kX9_load_119 rfl ?_
          refine q_gr eX9_load_120 fl_RX9_17 (Or.inr ⟨_, rfl⟩) m0h168 rfl ?_
          refine q_blk (lv2 := [(0, vr n), (1, vi len), (2, vi k)]) (st2 := [vi 30, vi 2, vr n, vi 0, vr (n + 2)]) kX9_load_123 rfl ?_
          refine q_Vi (av := [vi 2, vi 30]) (st := [vi 0, vr (n + 2)]) (c_X9_number_b Mh168 Yh168 (lo := 2) (hi := 30)) lk_RX9_197 (by decide) rfl rfl Mh168.ob ⟨_, rfl, rfl⟩ (Nat.le_of_ble_eq_true rfl) eX9_load_128 (fun z169 e170 => ?_)
          subst e170
          refine q_is eX9_load_131 m1h168 (by omega) (by omega) (fun h171 e172 => ?_)
          have k173 := (am_ne e172 n (by omega)).trans m0h168
          have k174 := am_at e172
          have Mw175 : MM h171 n 0 0 len (st 0) (-2) (st 0) eo ud g0 g1 g2 g3 ns 0 0 (am_uI E0 0 0) := ⟨k173, k174⟩
          have Vw175 : am_f2 _ h171 n := (am_fr.st e172 (by omega) (by omega) : am_fr _ _ (n + 2) (n + 3)).f2d
          have Yh171' : am_f2 hh h171 n := Vh168.tr Vw175
          have hbh171 : h171.1 (n + 1) = some (100, 800, bf, am_N) := (Yh171'.2 (n + 1) (by omega) (by omega)).trans hb100
          obtain ⟨m0h171, m1h171⟩ := id Mw175
          refine q_blk (lv2 := [(0, vr n), (1, vi len), (2, vi k)]) (st2 := [vr n]) kX9_load_132 rfl ?_
          refine q_gr eX9_load_133 fl_RX9_17 (Or.inr ⟨_, rfl⟩) m0h171 rfl ?_
          refine q_blk (lv2 := [(0, vr n), (1, vi len), (2, vi k)]) (st2 := [vi 30, vi 2, vr n, vi 1, vr (n + 2)]) kX9_load_136 rfl ?_
          refine q_Vi (av := [vi 2, vi 30]) (st := [vi 1, vr (n + 2)]) (c_X9_number_b Mw175 Yh168 (lo := 2) (hi := 30)) lk_RX9_197 (by decide) rfl rfl Mw175.ob ⟨_, rfl, rfl⟩ (Nat.le_of_ble_eq_true rfl) eX9_load_141 (fun z176 e177 => ?_)
          subst e177
          refine q_is eX9_load_144 m1h171 (by omega) (by omega) (fun h178 e179 => ?_)
          have k180 := (am_ne e179 n (by omega)).trans m0h171
          have k181 := am_at e179
          have Mw182 : MM h178 n 0 0 len (st 0) (-2) (st 0) eo ud g0 g1 g2 g3 ns 0 0 (am_uI (am_uI E0 0 0) 1 0) := ⟨k180, k181⟩
          have Vw182 : am_f2 _ h178 n := (am_fr.st e179 (by omega) (by omega) : am_fr _ _ (n + 2) (n + 3)).f2d
          have Yh178' : am_f2 hh h178 n := Yh171'.tr Vw182
          have hbh178 : h178.1 (n + 1) = some (100, 800, bf, am_N) := (Yh178'.2 (n + 1) (by omega) (by omega)).trans hb100
          obtain ⟨m0h178, m1h178⟩ := id Mw182
          refine q_blk (lv2 := [(0, vr n), (1, vi len), (2, vi k)]) (st2 := [vi 59, vr n]) kX9_load_145 rfl ?_
          refine AQ.callVv (av := [vi 59]) (st := []) (c_X9_expect_b Mw182 Yh168 (c := 59)) lk_RX9_179 (by decide) rfl rfl Mw182.ob ⟨_, rfl, rfl⟩ (Nat.le_of_ble_eq_true rfl) eX9_load_148 (fun h185 e184 => ?_)
          subst e184
          refine q_blk (lv2 := [(0, vr n), (1, vi len), (2, vi k)]) (st2 := [vr n]) kX9_load_151 rfl ?_
          refine q_Vi (av := []) (st := []) (c_X9_isGood_b Mw182 Yh168) lk_RX9_145 (by decide) rfl rfl Mw182.ob ⟨_, rfl, rfl⟩ (Nat.le_of_ble_eq_true rfl) eX9_load_152 (fun z186 e187 => ?_)
          subst e187
          refine AQ.of (AS.if_eq_t (tgt := 173) eX9_load_155 (by decide) ⟨by decide, by decide⟩ (by decide)) ?_
          refine q_blk (lv2 := [(0, vr n), (1, vi len), (2, vi k)]) (st2 := [vr n, vr n]) kX9_load_173 rfl ?_
          refine q_gi eX9_load_175 fl_RX9_142 (Or.inl rfl) m0h178 (z := (st 0)) rfl ?_
          refine q_pi eX9_load_178 fl_RX9_13 (fun q hq => by cases hq; exact Or.inl rfl) (Or.inl rfl) m0h178 (Nat.le_of_ble_eq_true rfl) (l2 := [0, 0, 0, len, (st 0), (-2), (st 0), (st 0), 0, 0, 0, ud, g0, g1, g2, g3, ns, 0, 0, 0]) rfl (fun h188 e189 => ?_)
          have k190 := am_at e189
          have k191 := (am_ne e189 (n + 2) (by omega)).trans m1h178
          have Mw192 : MM h188 n 0 0 len (st 0) (-2) (st 0) (st 0) ud g0 g1 g2 g3 ns 0 0 (am_uI (am_uI E0 0 0) 1 0) := ⟨k190, k191⟩
          have Vw192 : am_f2 _ h188 n := (am_fr.st e189 (by omega) (by omega) : am_fr _ _ n (n + 1)).f2
          have Yh188' : am_f2 hh h188 n := Yh178'.tr Vw192
          have hbh188 : h188.1 (n + 1) = some (100, 800, bf, am_N) := (Yh188'.2 (n + 1) (by omega) (by omega)).trans hb100
          obtain ⟨m0h188, m1h188⟩ := id Mw192
          have R181 := Rhh.f2 Yh188'
          have V181 : am_fr h h188 n (n + 14) := am_fr.tr Vhh (Yh188').nn
          have K181 := ((Yh188').2 (n + 13) (by omega) (by omega)).trans Khh
          refine q_blk (lv2 := [(0, vr n), (1, vi len), (2, vi k)]) (st2 := [vr n]) kX9_load_181 rfl ?_
          refine q_Vi (av := []) (st := []) (c_X9_isGood_b Mw192 Yh168) lk_RX9_145 (by decide) rfl rfl Mw192.ob ⟨_, rfl, rfl⟩ (Nat.le_of_ble_eq_true rfl) eX9_load_182 (fun z193 e194 => ?_)
          subst e194
          refine AQ.of (AS.if_ne_f eX9_load_185 ⟨by decide, by decide⟩ (by decide) (by decide)) ?_
          refine q_blk (lv2 := [(0, vr n), (1, vi len), (2, vi k)]) (st2 := [vr n]) kX9_load_188 rfl ?_
          refine q_gr eX9_load_189 fl_RX9_20 (Or.inr ⟨_, rfl⟩) m0h188 rfl ?_
          refine q_blk (lv2 := [(0, vr n), (1, vi len), (2, vi k)]) (st2 := [vr n, vr (n + 3)]) kX9_load_192 rfl ?_
          refine q_gr eX9_load_193 fl_RX9_17 (Or.inr ⟨_, rfl⟩) m0h188 rfl ?_
          refine AQ.callSv (av := [vr (n + 3), vr (n + 2)]) (st := []) (c_X9_copy (a := (n + 3)) (b := (n + 2)) R181.2.1 m1h188 (by omega)) lk_RX9_245 (by decide) rfl rfl (Nat.le_of_ble_eq_true rfl) eX9_load_196 (fun h197 e196 => ?_)
          obtain ⟨Ch197, Fh197⟩ := e196
          have M199 : MM h197 n 0 0 len (st 0) (-2) (st 0) (st 0) ud g0 g1 g2 g3 ns 0 0 (gm_cp (gm_cp D od 1528) (am_uI (am_uI E0 0 0) 1 0) 1528) := ⟨(Fh197.2 n (by omega)).trans m0h188, Ch197⟩
          have Vh197 : am_fr h h197 n (n + 14) := am_fr.tr V181 (am_fr.mo Fh197 (by omega) (by omega))
          have Rh197 := R181.kept Fh197 (by omega)
          have Kh197 := (Fh197.2 (n + 13) (by omega)).trans K181
          obtain ⟨m0h197, m1h197⟩ := id M199
          refine q_blk (lv2 := [(0, vr n), (1, vi len), (2, vi k)]) (st2 := [vr n]) kX9_load_199 rfl ?_
          refine q_gi eX9_load_200 fl_RX9_139 (Or.inl rfl) m0h197 (z := (-2)) rfl ?_
          exact q_ri rfl eX9_load_203 ⟨(-2), rfl, Or.inr ⟨hlb, Or.inl ⟨_, _, _, rD_1 Kh54, rfl, (gm_cp_8 _ _).tr (gm_cp_8 _ _), ⟨_, _, _, _, _, _, _, _, _, _, _, _, _, M199, Rh197, Kh197⟩⟩⟩, Vh197⟩
      · skip
        refine q_blk (lv2 := [(0, vr n), (1, vi len), (2, vi k)]) (st2 := [vr n]) kX9_load_87 rfl ?_
        refine q_gr eX9_load_88 fl_RX9_17 (Or.inr ⟨_, rfl⟩) m0' rfl ?_
        refine q_blk (lv2 := [(0, vr n), (1, vi len), (2, vi k)]) (st2 := [vi 0, vi k, vr (n + 2)]) kX9_load_91 rfl ?_
        refine q_is eX9_load_93 m1' (by omega) (by omega) (fun h198 e199 => ?_)
        have k200 := (am_ne e199 n (by omega)).trans m0'
        have k201 := am_at e199
        refine q_blk (lv2 := [(0, vr n), (1, vi len), (2, vi (k + 1))]) (st2 := []) kX9_load_94 rfl ?_
        refine q_goto (tgt := 80) eX9_load_97 (by decide) ?_
        exact ih49 (k + 1) h198 (⟨⟨by omega, by omega⟩, ⟨k200, by rw [← gm_cp_s (fun _ => 0) D k0]; exact k201⟩, am_fr.tr hf9 (am_fr.st e199 (by omega) (by omega))⟩) (by omega)
  · skip
    refine AQ.of (AS.if_ne_f eX9_load_15 ⟨by decide, by decide⟩ (by decide) (by decide)) ?_
    refine q_blk (lv2 := [(0, vr n), (1, vi len)]) (st2 := [vi 1, vr n]) kX9_load_18 rfl ?_
    refine q_goto (tgt := 23) eX9_load_19 (by decide) ?_
    refine q_blk (lv2 := [(0, vr n), (1, vi len)]) (st2 := [vi 1, vi 1, vr n]) kX9_load_23 rfl ?_
    refine AQ.callVi (av := [vi 1, vi 1]) (st := []) (c_X9_fails M5 (c := 1) (e := 1) (by decide) (by omega)) lk_RX9_241 (by decide) rfl rfl M5.ob ⟨_, rfl, rfl⟩ (Nat.le_of_ble_eq_true rfl) eX9_load_24 (fun z202 h204 e203 => ?_)
    rcases e203 with ⟨⟨rfl, Bh204⟩ | ⟨rfl, Bh204⟩, ⟨thh204, Th204, Mh204⟩, Fh204⟩
    · skip
      obtain rfl := Th204.t
      have Vh204 : am_fr h h204 n (n + 14) := am_fr.tr Vh1 (am_fr.mo Fh204 (by omega) (by omega))
      have Rh204 := Rh1.kept Fh204 (by omega)
      have Kh204 := (Fh204.2 (n + 13) (by omega)).trans Kh1
      obtain ⟨m0h204, m1h204⟩ := id Mh204
      refine AQ.of (AS.if_eq_f eX9_load_27 ⟨by decide, by decide⟩ (by decide) (by decide)) ?_
      refine q_blk (lv2 := [(0, vr n), (1, vi len)]) (st2 := [vi 0]) kX9_load_30 rfl ?_
      exact q_ri rfl eX9_load_31 ⟨0, rfl, Or.inl ⟨by omega, ⟨_, _, _, _, _, _, _, _, _, _, _, _, _, Mh204, Rh204, Kh204⟩⟩, Vh204⟩
    · skip
      obtain rfl := Th204.f
      have Vh204 : am_fr h h204 n (n + 14) := am_fr.tr Vh1 (am_fr.mo Fh204 (by omega) (by omega))
      have Rh204 := Rh1.kept Fh204 (by omega)
      have Kh204 := (Fh204.2 (n + 13) (by omega)).trans Kh1
      obtain ⟨m0h204, m1h204⟩ := id Mh204
      refine AQ.of (AS.if_eq_t (tgt := 32) eX9_load_27 (by decide) ⟨by decide, by decide⟩ (by decide)) ?_
      refine q_blk (lv2 := [(0, vr n), (1, vi len)]) (st2 := [vi 0, vr n]) kX9_load_32 rfl ?_
      refine q_pi eX9_load_34 fl_RX9_127 (fun q hq => by cases hq; exact Or.inl rfl) (Or.inl rfl) m0h204 (Nat.le_of_ble_eq_true rfl) (l2 := [0, 0, 0, tl, ps, er, ea, eo, 0, 0, 0, ud, g0, g1, g2, g3, ns, ne, se, 0]) rfl (fun h205 e206 => ?_)
      have k207 := am_at e206
      have k208 := (am_ne e206 (n + 2) (by omega)).trans m1h204
      have k209 := (am_ne e206 (n + 13) (by omega)).trans Kh204
      refine q_blk (lv2 := [(0, vr n), (1, vi len)]) (st2 := [vi len, vr n]) kX9_load_37 rfl ?_
      refine q_pi eX9_load_39 fl_RX9_130 (fun q hq => by cases hq; exact Or.inl rfl) (Or.inl rfl) k207 (Nat.le_of_ble_eq_true rfl) (l2 := [0, 0, 0, len, ps, er, ea, eo, 0, 0, 0, ud, g0, g1, g2, g3, ns, ne, se, 0]) rfl (fun h210 e211 => ?_)
      have k212 := am_at e211
      have k213 := (am_ne e211 (n + 2) (by omega)).trans k208
      have k214 := (am_ne e211 (n + 13) (by omega)).trans k209
      refine q_blk (lv2 := [(0, vr n), (1, vi len)]) (st2 := [vi 0, vr n]) kX9_load_42 rfl ?_
      refine q_pi eX9_load_44 fl_RX9_133 (fun q hq => by cases hq; exact Or.inl rfl) (Or.inl rfl) k212 (Nat.le_of_ble_eq_true rfl) (l2 := [0, 0, 0, len, 0, er, ea, eo, 0, 0, 0, ud, g0, g1, g2, g3, ns, ne, se, 0]) rfl (fun h215 e216 => ?_)
      have k217 := am_at e216
      have k218 := (am_ne e216 (n + 2) (by omega)).trans k213
      have k219 := (am_ne e216 (n + 13) (by omega)).trans k214
      refine q_blk (lv2 := [(0, vr n), (1, vi len)]) (st2 := [vi 0, vr n]) kX9_load_47 rfl ?_
      refine q_pi eX9_load_49 fl_RX9_139 (fun q hq => by cases hq; exact Or.inl rfl) (Or.inl rfl) k217 (Nat.le_of_ble_eq_true rfl) (l2 := [0, 0, 0, len, 0, 0, ea, eo, 0, 0, 0, ud, g0, g1, g2, g3, ns, ne, se, 0]) rfl (fun h220 e221 => ?_)
      have k222 := am_at e221
      have k223 := (am_ne e221 (n + 2) (by omega)).trans k218
      have k224 := (am_ne e221 (n + 13) (by omega)).trans k219
      refine q_blk (lv2 := [(0, vr n), (1, vi len)]) (st2 := [vi (-1), vr n]) kX9_load_52 rfl ?_
      refine q_pi eX9_load_54 fl_RX9_142 (fun q hq => by cases hq; exact Or.inl rfl) (Or.inl rfl) k222 (Nat.le_of_ble_eq_true rfl) (l2 := [0, 0, 0, len, 0, 0, (-1), eo, 0, 0, 0, ud, g0, g1, g2, g3, ns, ne, se, 0]) rfl (fun h225 e226 => ?_)
      have k227 := am_at e226
      have k228 := (am_ne e226 (n + 2) (by omega)).trans k223
      have k229 := (am_ne e226 (n + 13) (by omega)).trans k224
      refine q_blk (lv2 := [(0, vr n), (1, vi len)]) (st2 := [vi 0, vr n]) kX9_load_57 rfl ?_
      refine q_pi eX9_load_59 fl_RX9_173 (fun q hq => by cases hq; exact Or.inl rfl) (Or.inl rfl) k227 (Nat.le_of_ble_eq_true rfl) (l2 := [0, 0, 0, len, 0, 0, (-1), eo, 0, 0, 0, ud, g0, g1, g2, g3, ns, 0, se, 0]) rfl (fun h230 e231 => ?_)
      have k232 := am_at e231
      have k233 := (am_ne e231 (n + 2) (by omega)).trans k228
      have k234 := (am_ne e231 (n + 13) (by omega)).trans k229
      refine q_blk (lv2 := [(0, vr n), (1, vi len)]) (st2 := [vi 0, vr n]) kX9_load_62 rfl ?_
      refine q_pi eX9_load_64 fl_RX9_209 (fun q hq => by cases hq; exact Or.inl rfl) (Or.inl rfl) k232 (Nat.le_of_ble_eq_true rfl) (l2 := [0, 0, 0, len, 0, 0, (-1), eo, 0, 0, 0, ud, g0, g1, g2, g3, ns, 0, 0, 0]) rfl (fun h235 e236 => ?_)
      have k237 := am_at e236
      have k238 := (am_ne e236 (n + 2) (by omega)).trans k233
      have k239 := (am_ne e236 (n + 13) (by omega)).trans k234
      have M67 : MM h235 n 0 0 len 0 0 (-1) eo ud g0 g1 g2 g3 ns 0 0 D := ⟨k237, k238⟩
      have FF67 : am_fr _ h235 n (n + 1) := am_fr.tr (am_fr.tr (am_fr.tr (am_fr.tr (am_fr.tr (am_fr.tr (am_fr.st e206 (by omega) (by omega)) (am_fr.st e211 (by omega) (by omega))) (am_fr.st e216 (by omega) (by omega))) (am_fr.st e221 (by omega) (by omega))) (am_fr.st e226 (by omega) (by omega))) (am_fr.st e231 (by omega) (by omega))) (am_fr.st e236 (by omega) (by omega))
      have hlb : 0 ≤ len ∧ len ≤ bl := by omega
      obtain ⟨N, ⟨N0, N1⟩, hg, hp0⟩ := TG.mk (tx := tx) (kd := kd) (st := st) (vl := vl) (by omega) hlb.1 (hTK hlb.1 hlb.2)
      have hl : 0 ≤ len ∧ len ≤ 800 := by omega
      have hN : N ≤ 800 := by omega
      have hx : BX bf tx len := fun k k0 k1 => hbx k k0 (by omega)
      have hp : TP tx st N 0 0 := ⟨⟨by decide, N0⟩, by decide, hp0⟩
      have Vh235 : am_fr h h235 n (n + 14) := am_fr.tr Vh204 (am_fr.mo FF67 (by omega) (by omega))
      have Rh235 := Rh204.kept FF67 (by omega)
      have Kh235 := (FF67.2 (n + 13) (by omega)).trans Kh204
      obtain ⟨m0h235, m1h235⟩ := id M67
      refine q_blk (lv2 := [(0, vr n), (1, vi len)]) (st2 := [vr n]) kX9_load_67 rfl ?_
      refine q_gr eX9_load_68 fl_RX9_17 (Or.inr ⟨_, rfl⟩) m0h235 rfl ?_
      refine q_blk (lv2 := [(0, vr n), (1, vi len)]) (st2 := [vr n, vr (n + 2)]) kX9_load_71 rfl ?_
      refine q_gr eX9_load_72 fl_RX9_20 (Or.inr ⟨_, rfl⟩) m0h235 rfl ?_
      refine AQ.callSv (av := [vr (n + 2), vr (n + 3)]) (st := []) (c_X9_copy (a := (n + 2)) (b := (n + 3)) m1h235 Rh235.2.1 (by omega)) lk_RX9_245 (by decide) rfl rfl (Nat.le_of_ble_eq_true rfl) eX9_load_75 (fun h242 e241 => ?_)
      obtain ⟨Ch242, Fh242⟩ := e241
      have M78 := M67.kept Fh242 (by omega)
      have R78 := Rh235.old Ch242 Fh242
      have Vh242 : am_fr h h242 n (n + 14) := am_fr.tr Vh235 (am_fr.mo Fh242 (by omega) (by omega))
      have Kh242 := (Fh242.2 (n + 13) (by omega)).trans Kh235
      obtain ⟨m0h242, m1h242⟩ := id M78
      refine q_blk (lv2 := [(0, vr n), (1, vi len), (2, vi 0)]) (st2 := []) kX9_load_78 rfl ?_
      refine am_lp2 (I := fun (k : Int) (hh : AH) => (0 ≤ k ∧ k ≤ 1528) ∧ MM hh n 0 0 len 0 0 (-1) eo ud g0 g1 g2 g3 ns 0 0 (gm_cp (fun _ => 0) D k) ∧ am_fr h242 hh (n + 2) (n + 3)) (μ := fun (k : Int) (hh : AH) => (1528 - k).toNat) (G := fun (k : Int) (hh : AH) => AQ w m_X9_load 22 80 [(0, vr n), (1, vi len), (2, vi k)] [] hh (am_int (fun z h1 => ((¬ (0 ≤ len ∧ len ≤ bl) ∧ MA h1 n 1 bl eo ud bf rw D) ∨ ((0 ≤ len ∧ len ≤ bl) ∧ ((∃ e a D2, rD kd st vl = .inl (e, a) ∧ z = e ∧ gm_eq8 D D2 ∧ MA h1 n 0 0 a ud bf rw D2) ∨ (∃ D2 L E ud' rw', rD kd st vl = .inr (D2, L) ∧ z = D2 3 ∧ gm_same D2 E ∧ VD D2 ∧ E 4 = gm_hs L ∧ CE E (gm_ed (L.getD [])) ∧ (gm_ed (L.getD [])).length ≤ 1300 ∧ PU ud rw D ud' rw' ∧ (1 ≤ ud' ∧ ud' ≤ 8) ∧ MA h1 n 0 0 (-1) ud' bf rw' E)))) ∧ am_fr h h1 n (n + 14)))) ?_ 0 h242 (⟨⟨by omega, by omega⟩, by rw [gm_cp_0]; exact M78, am_fr.rf⟩)
      intro k hh hI244 ih243
      obtain ⟨⟨k0, k1⟩, hm9, hf9⟩ := hI244
      obtain ⟨m0', m1'⟩ := id hm9
      refine q_blk (lv2 := [(0, vr n), (1, vi len), (2, vi k)]) (st2 := [vi 1528, vi k]) kX9_load_80 rfl ?_
      refine AQ.ic_ge (tgt := 100) eX9_load_84 (by decide) (by first | assumption | exact ⟨by omega, by omega⟩) ⟨by decide, by decide⟩ (fun br245 => ?_) (fun br245 => ?_)
      · skip
        obtain ⟨E0, hE0⟩ : ∃ q, q = gm_cp (fun _ => 0) D 1528 := ⟨_, rfl⟩
        have hz0 : ∀ j, 0 ≤ j → j < 1528 → E0 j = 0 := fun j j0 j1 => by rw [hE0]; exact if_pos ⟨j0, j1⟩
        rw [show k = 1528 by omega, ← hE0] at hm9
        have Vhh : am_fr h hh n (n + 14) := am_fr.tr Vh242 (am_fr.mo hf9 (by omega) (by omega))
        have Rhh := R78.kept hf9 (by omega)
        have Khh := (hf9.2 (n + 13) (by omega)).trans Kh242
        obtain ⟨m0hh, m1hh⟩ := id hm9
        have hb100 := Rhh.1
        refine q_blk (lv2 := [(0, vr n), (1, vi len), (2, vi k)]) (st2 := [vr n]) kX9_load_100 rfl ?_
        refine AQ.of (AS.ldcS (i := 20) (by decide) ⟨rfl, rfl⟩ eX9_load_101) ?_
        refine AQ.callVi (av := [vr (w.2 20)]) (st := []) (c_X9_takeWord_g hm9 hb100 hl hx hg hp (w9 := 1) (by decide) (by decide)) lk_RX9_185 (by decide) rfl rfl hm9.ob ⟨_, rfl, rfl⟩ (Nat.le_of_ble_eq_true rfl) eX9_load_103 (fun z246 h248 e247 => ?_)
        rcases e247 with ⟨⟨rfl, Kh248, pxh248, Th248, Mh248⟩ | ⟨rfl, Kh248, Mh248⟩, Vh248⟩
        · skip
          have Yh248' : am_f2 hh h248 n := Vh248
          have hbh248 : h248.1 (n + 1) = some (100, 800, bf, am_N) := (Yh248'.2 (n + 1) (by omega) (by omega)).trans hb100
          obtain ⟨m0h248, m1h248⟩ := id Mh248
          rw [show gm_wc 1 = 3 from rfl] at Kh248
          refine AQ.of (AS.if_ne_t (tgt := 119) eX9_load_106 (by decide) ⟨by decide, by decide⟩ (by decide)) ?_
          refine q_blk (lv2 := [(0, vr n), (1, vi len), (2, vi k)]) (st2 := [vr n]) kX9_load_119 rfl ?_
          refine q_gr eX9_load_120 fl_RX9_17 (Or.inr ⟨_, rfl⟩) m0h248 rfl ?_
          refine q_blk (lv2 := [(0, vr n), (1, vi len), (2, vi k)]) (st2 := [vi 30, vi 2, vr n, vi 0, vr (n + 2)]) kX9_load_123 rfl ?_
          refine AQ.callVi (av := [vi 2, vi 30]) (st := [vi 0, vr (n + 2)]) (c_X9_number_g Mh248 hbh248 hl hx hg Th248 (lo := 2) (hi := 30) (by omega) (by omega) (by omega)) lk_RX9_197 (by decide) rfl rfl Mh248.ob ⟨_, rfl, rfl⟩ (Nat.le_of_ble_eq_true rfl) eX9_load_128 (fun z249 h251 e250 => ?_)
          rcases e250 with ⟨⟨pxh251, Kh251, K2h251, Th251, Mh251⟩ | ⟨pxh251, nh251, eh251, ah251, Kh251, Zh251, Mh251⟩, z0h251, z1h251, Vh251⟩
          · skip
            have Yh251' : am_f2 hh h251 n := Yh248'.tr Vh251
            have hbh251 : h251.1 (n + 1) = some (100, 800, bf, am_N) := (Yh251'.2 (n + 1) (by omega) (by omega)).trans hb100
            obtain ⟨m0h251, m1h251⟩ := id Mh251
            have NVh251 := rN_v Kh251
            refine q_is eX9_load_131 m1h251 (by omega) (by omega) (fun h252 e253 => ?_)
            have k254 := (am_ne e253 n (by omega)).trans m0h251
            have k255 := am_at e253
            have Mw256 : MM h252 n 0 0 len pxh251 0 (-1) eo ud g0 g1 g2 g3 (st (0 + 1)) 0 0 (am_uI E0 0 z249) := ⟨k254, k255⟩
            have Vw256 : am_f2 _ h252 n := (am_fr.st e253 (by omega) (by omega) : am_fr _ _ (n + 2) (n + 3)).f2d
            have Yh252' : am_f2 hh h252 n := Yh251'.tr Vw256
            have hbh252 : h252.1 (n + 1) = some (100, 800, bf, am_N) := (Yh252'.2 (n + 1) (by omega) (by omega)).trans hb100
            obtain ⟨m0h252, m1h252⟩ := id Mw256
            refine q_blk (lv2 := [(0, vr n), (1, vi len), (2, vi k)]) (st2 := [vr n]) kX9_load_132 rfl ?_
            refine q_gr eX9_load_133 fl_RX9_17 (Or.inr ⟨_, rfl⟩) m0h252 rfl ?_
            refine q_blk (lv2 := [(0, vr n), (1, vi len), (2, vi k)]) (st2 := [vi 30, vi 2, vr n, vi 1, vr (n + 2)]) kX9_load_136 rfl ?_
            refine AQ.callVi (av := [vi 2, vi 30]) (st := [vi 1, vr (n + 2)]) (c_X9_number_g Mw256 hbh252 hl hx hg Th251 (lo := 2) (hi := 30) (by omega) (by omega) (by omega)) lk_RX9_197 (by decide) rfl rfl Mw256.ob ⟨_, rfl, rfl⟩ (Nat.le_of_ble_eq_true rfl) eX9_load_141 (fun z257 h259 e258 => ?_)
            rcases e258 with ⟨⟨pxh259, Kh259, K2h259, Th259, Mh259⟩ | ⟨pxh259, nh259, eh259, ah259, Kh259, Zh259, Mh259⟩, z0h259, z1h259, Vh259⟩
            · skip
              have Yh259' : am_f2 hh h259 n := Yh252'.tr Vh259
              have hbh259 : h259.1 (n + 1) = some (100, 800, bf, am_N) := (Yh259'.2 (n + 1) (by omega) (by omega)).trans hb100
              obtain ⟨m0h259, m1h259⟩ := id Mh259
              have NVh259 := rN_v Kh259
              refine q_is eX9_load_144 m1h259 (by omega) (by omega) (fun h260 e261 => ?_)
              have k262 := (am_ne e261 n (by omega)).trans m0h259
              have k263 := am_at e261
              have Mw264 : MM h260 n 0 0 len pxh259 0 (-1) eo ud g0 g1 g2 g3 (st ((0 + 1) + 1)) 0 0 (am_uI (am_uI E0 0 z249) 1 z257) := ⟨k262, k263⟩
              have Vw264 : am_f2 _ h260 n := (am_fr.st e261 (by omega) (by omega) : am_fr _ _ (n + 2) (n + 3)).f2d
              have Yh260' : am_f2 hh h260 n := Yh259'.tr Vw264
              have hbh260 : h260.1 (n + 1) = some (100, 800, bf, am_N) := (Yh260'.2 (n + 1) (by omega) (by omega)).trans hb100
              obtain ⟨m0h260, m1h260⟩ := id Mw264
              refine q_blk (lv2 := [(0, vr n), (1, vi len), (2, vi k)]) (st2 := [vi 59, vr n]) kX9_load_145 rfl ?_
              refine AQ.callVv (av := [vi 59]) (st := []) (c_X9_expect_g Mw264 hbh260 hl hx hg Th259 (c := 59) (by decide)) lk_RX9_179 (by decide) rfl rfl Mw264.ob ⟨_, rfl, rfl⟩ (Nat.le_of_ble_eq_true rfl) eX9_load_148 (fun h267 e266 => ?_)
              rcases e266 with ⟨⟨Kh267, pxh267, Th267, Mh267⟩ | ⟨eh267, ah267, Kh267, Eh267, Mh267⟩, Vh267⟩
              · skip
                have Yh267' : am_f2 hh h267 n := Yh260'.tr Vh267
                have hbh267 : h267.1 (n + 1) = some (100, 800, bf, am_N) := (Yh267'.2 (n + 1) (by omega) (by omega)).trans hb100
                obtain ⟨m0h267, m1h267⟩ := id Mh267
                have hrD := rD_5 Kh248 Kh251 Kh259 Kh267
                have Z9 := gm_z_emp hz0 (x := z249) (y := z257) (by omega) (by omega)
                refine q_sub (lv2 := [(0, vr n)]) [0] rfl ?_
                refine am_lp5 (I := fun  (hz : AH) (D9 : Int → Int) (L9 : Option GL) (i9 : Int) (f9 : Nat) => rD kd st vl = rR kd st vl f9 D9 L9 i9 ∧ (4 ≤ i9 ∧ i9 ≤ N) ∧ N - i9 ≤ (f9 : Int) ∧ QG tx st N hz n 0 0 len (-1) eo ud D9 L9 i9 ∧ am_f2 hh hz n) (μ := fun  (hz : AH) (D9 : Int → Int) (L9 : Option GL) (i9 : Int) (f9 : Nat) => (N - i9).toNat) (G := fun  (hz : AH) (D9 : Int → Int) (L9 : Option GL) (i9 : Int) (f9 : Nat) => AQ w m_X9_load 22 151 [(0, vr n)] [] hz (am_int (fun z h1 => ((¬ (0 ≤ len ∧ len ≤ bl) ∧ MA h1 n 1 bl eo ud bf rw D) ∨ ((0 ≤ len ∧ len ≤ bl) ∧ ((∃ e a D2, rD kd st vl = .inl (e, a) ∧ z = e ∧ gm_eq8 D D2 ∧ MA h1 n 0 0 a ud bf rw D2) ∨ (∃ D2 L E ud' rw', rD kd st vl = .inr (D2, L) ∧ z = D2 3 ∧ gm_same D2 E ∧ VD D2 ∧ E 4 = gm_hs L ∧ CE E (gm_ed (L.getD [])) ∧ (gm_ed (L.getD [])).length ≤ 1300 ∧ PU ud rw D ud' rw' ∧ (1 ≤ ud' ∧ ud' ≤ 8) ∧ MA h1 n 0 0 (-1) ud' bf rw' E)))) ∧ am_fr h h1 n (n + 14)))) ?_ h267 (gm_emp z249 z257) none 4 800 (⟨hrD, ⟨by decide, Th267.1.2⟩, by omega, ⟨_, _, _, _, _, _, _, Z9.1, gm_emp_vd (by omega) (by omega), Z9.2.1, Z9.2.2, by decide, Th267, Mh267⟩, Yh267'⟩)
                intro hz D9 L9 i9 f9 hI269 ih268
                obtain ⟨hR9, ⟨i90, i91⟩, hf99, hQ9, hf9⟩ := hI269
                obtain ⟨ps9, a9, b9, c9, d9, ns9, E9, hs9, hV9, h49, hC9, hl9, hT9, hm9⟩ := hQ9
                obtain ⟨m0', m1'⟩ := id hm9
                have hb9 := (hf9.2 (n + 1) (by omega) (by omega)).trans hb100
                have hch9 := hg.ch hx hT9.1.1 hT9.1.2
                refine q_blk (lv2 := [(0, vr n)]) (st2 := [vr n]) kX9_load_151 rfl ?_
                refine q_Vi (av := []) (st := []) (c_X9_isGood_g hm9) lk_RX9_145 (by decide) rfl rfl hm9.ob ⟨_, rfl, rfl⟩ (Nat.le_of_ble_eq_true rfl) eX9_load_152 (fun z270 e271 => ?_)
                subst e271
                refine AQ.of (AS.if_eq_f eX9_load_155 ⟨by decide, by decide⟩ (by decide) (by decide)) ?_
                refine q_blk (lv2 := [(0, vr n)]) (st2 := [vr n]) kX9_load_158 rfl ?_
                refine AQ.callVi (av := []) (st := []) (c_X9_next hm9 hb9 hl hx hg hT9) lk_RX9_149 (by decide) rfl rfl hm9.ob ⟨_, rfl, rfl⟩ (Nat.le_of_ble_eq_true rfl) eX9_load_159 (fun z272 h274 e273 => ?_)
                obtain ⟨rfl, Mh274, Fh274⟩ := e273
                have Vh274 : am_f2 hh h274 n := hf9.tr (Fh274.f2)
                have hbh274 : h274.1 (n + 1) = some (100, 800, bf, am_N) := (Vh274.2 (n + 1) (by omega) (by omega)).trans hb100
                obtain ⟨m0h274, m1h274⟩ := id Mh274
                have Ph274 := hT9.at hg hl.1
                refine q_blk (lv2 := [(0, vr n)]) (st2 := [vi (-1), vi (gm_T bf len (st i9))]) kX9_load_162 rfl ?_
                refine AQ.ic_eq (tgt := 173) eX9_load_163 (by decide) (by first | assumption | exact ⟨by omega, by omega⟩) ⟨by decide, by decide⟩ (fun br275 => ?_) (fun br275 => ?_)
                · skip
                  refine q_blk (lv2 := [(0, vr n)]) (st2 := [vr n, vr n]) kX9_load_173 rfl ?_
                  refine q_gi eX9_load_175 fl_RX9_142 (Or.inl rfl) m0h274 (z := (-1)) rfl ?_
                  refine q_pi eX9_load_178 fl_RX9_13 (fun q hq => by cases hq; exact Or.inl rfl) (Or.inl rfl) m0h274 (Nat.le_of_ble_eq_true rfl) (l2 := [0, 0, 0, len, (st i9), 0, (-1), (-1), 0, 0, 0, ud, a9, b9, c9, d9, ns9, 0, (gm_hs L9), 0]) rfl (fun h276 e277 => ?_)
                  have k278 := am_at e277
                  have k279 := (am_ne e277 (n + 2) (by omega)).trans m1h274
                  have Mw280 : MM h276 n 0 0 len (st i9) 0 (-1) (-1) ud a9 b9 c9 d9 ns9 0 (gm_hs L9) E9 := ⟨k278, k279⟩
                  have Vw280 : am_f2 _ h276 n := (am_fr.st e277 (by omega) (by omega) : am_fr _ _ n (n + 1)).f2
                  have Yh276' : am_f2 hh h276 n := Vh274.tr Vw280
                  have hbh276 : h276.1 (n + 1) = some (100, 800, bf, am_N) := (Yh276'.2 (n + 1) (by omega) (by omega)).trans hb100
                  obtain ⟨m0h276, m1h276⟩ := id Mw280
                  have R181 := Rhh.f2 Yh276'
                  have V181 : am_fr h h276 n (n + 14) := am_fr.tr Vhh (Yh276').nn
                  have K181 := ((Yh276').2 (n + 13) (by omega) (by omega)).trans Khh
                  refine q_blk (lv2 := [(0, vr n)]) (st2 := [vr n]) kX9_load_181 rfl ?_
                  refine q_Vi (av := []) (st := []) (c_X9_isGood_g Mw280) lk_RX9_145 (by decide) rfl rfl Mw280.ob ⟨_, rfl, rfl⟩ (Nat.le_of_ble_eq_true rfl) eX9_load_182 (fun z281 e282 => ?_)
                  subst e282
                  refine AQ.of (AS.if_ne_t (tgt := 204) eX9_load_185 (by decide) ⟨by decide, by decide⟩ (by decide)) ?_
                  refine q_blk (lv2 := [(0, vr n)]) (st2 := [vr n, vr n]) kX9_load_204 rfl ?_
                  refine q_gr eX9_load_206 fl_RX9_20 (Or.inr ⟨_, rfl⟩) m0h276 rfl ?_
                  refine AQ.callVv (av := [vr (n + 3)]) (st := []) (c_X9_push Mw280 hu R181 (Or.inr rfl) R181.2.1) lk_RX9_254 (by decide) rfl rfl Mw280.ob ⟨_, rfl, rfl⟩ (Nat.le_of_ble_eq_true rfl) eX9_load_209 (fun h285 e284 => ?_)
                  obtain ⟨ud9, rw9, P9, U9, Mh285, Rh285, Fh285, Zh285⟩ := e284
                  have Vh285 : am_fr h h285 n (n + 14) := am_fr.tr V181 (am_fr.mo Fh285 (by omega) (by omega))
                  have Kh285 := (Fh285.2 (n + 13) (by omega)).trans K181
                  obtain ⟨m0h285, m1h285⟩ := id Mh285
                  refine q_blk (lv2 := [(0, vr n)]) (st2 := [vr n]) kX9_load_212 rfl ?_
                  refine q_gr eX9_load_213 fl_RX9_17 (Or.inr ⟨_, rfl⟩) m0h285 rfl ?_
                  refine q_blk (lv2 := [(0, vr n)]) (st2 := [vi 3, vr (n + 2)]) kX9_load_216 rfl ?_
                  refine q_ia eX9_load_217 m1h285 (by decide) (by omega) (by omega) (z := (E9 3)) rfl ?_
                  exact q_ri rfl eX9_load_218 ⟨(E9 3), rfl, Or.inr ⟨hlb, Or.inr ⟨D9, L9, E9, ud9, rw9, hR9.trans (rR_e (Or.inr (hch9.2.2.2.2.1.mpr (by omega)))), hs9.2.2.2.1, hs9, hV9, h49, hC9, hl9, P9.of (gm_cp_8 _ _), U9, ⟨_, _, _, _, _, _, _, _, _, _, _, _, _, Mh285, Rh285, Kh285⟩⟩⟩, Vh285⟩
                · skip
                  have hk0 : kd i9 ≠ 0 := fun c => by have := hch9.2.2.2.2.1.mp c; omega
                  have hiN : i9 < N := by
                    rcases hg i9 hT9.1.1 hT9.1.2 with ⟨c1, c2, c3⟩ | ⟨c1, c2⟩
                    · exact absurd c2 hk0
                    · exact c1
                  refine q_blk (lv2 := [(0, vr n)]) (st2 := [vr n]) kX9_load_166 rfl ?_
                  refine AQ.callVv (av := []) (st := []) (c_X9_statement hbh274 hl hx hg hN (i := i9) ⟨_, _, _, _, _, _, _, hs9, hV9, h49, hC9, hl9, Ph274, Mh274⟩) lk_RX9_251 (by decide) rfl rfl Mh274.ob ⟨_, rfl, rfl⟩ (Nat.le_of_ble_eq_true rfl) eX9_load_167 (fun h288 e287 => ?_)
                  rcases e287 with ⟨⟨Dh288, Lh288, ih288, Kh288, jh288, Qh288⟩ | ⟨eh288, ah288, Kh288, Qh288⟩, Vh288⟩
                  · skip
                    have Yh288' : am_f2 hh h288 n := Vh274.tr Vh288
                    refine q_goto (tgt := 151) eX9_load_170 (by decide) ?_
                    exact ih268 h288 Dh288 Lh288 ih288 (f9 - 1) (⟨by rw [hR9, rR_x (by omega) hk0, rB_r Kh288], ⟨by omega, by obtain ⟨_, _, _, _, _, _, _, _, _, _, _, _, q9, _⟩ := Qh288; exact q9.1.2⟩, by omega, Qh288, Yh288'⟩) (by have q9 := hT9.1.2; omega)
                  · skip
                    obtain ⟨Zh288, psh288, gah288, gbh288, gch288, gdh288, nsh288, neh288, seh288, Eh288, Mh288⟩ := Qh288
                    have Yh288' : am_f2 hh h288 n := Vh274.tr Vh288
                    have hbh288 : h288.1 (n + 1) = some (100, 800, bf, am_N) := (Yh288'.2 (n + 1) (by omega) (by omega)).trans hb100
                    obtain ⟨m0h288, m1h288⟩ := id Mh288
                    have hRX : rD kd st vl = .inl (eh288, ah288) := by rw [hR9, rR_x (by omega) hk0, rB_l Kh288]
                    refine q_goto (tgt := 151) eX9_load_170 (by decide) ?_
                    refine q_blk (lv2 := [(0, vr n)]) (st2 := [vr n]) kX9_load_151 rfl ?_
                    refine q_Vi (av := []) (st := []) (c_X9_isGood_b Mh288 Zh288) lk_RX9_145 (by decide) rfl rfl Mh288.ob ⟨_, rfl, rfl⟩ (Nat.le_of_ble_eq_true rfl) eX9_load_152 (fun z289 e290 => ?_)
                    subst e290
                    refine AQ.of (AS.if_eq_t (tgt := 173) eX9_load_155 (by decide) ⟨by decide, by decide⟩ (by decide)) ?_
                    refine q_blk (lv2 := [(0, vr n)]) (st2 := [vr n, vr n]) kX9_load_173 rfl ?_
                    refine q_gi eX9_load_175 fl_RX9_142 (Or.inl rfl) m0h288 (z := ah288) rfl ?_
                    refine q_pi eX9_load_178 fl_RX9_13 (fun q hq => by cases hq; exact Or.inl rfl) (Or.inl rfl) m0h288 (Nat.le_of_ble_eq_true rfl) (l2 := [0, 0, 0, len, psh288, eh288, ah288, ah288, 0, 0, 0, ud, gah288, gbh288, gch288, gdh288, nsh288, neh288, seh288, 0]) rfl (fun h291 e292 => ?_)
                    have k293 := am_at e292
                    have k294 := (am_ne e292 (n + 2) (by omega)).trans m1h288
                    have Mw295 : MM h291 n 0 0 len psh288 eh288 ah288 ah288 ud gah288 gbh288 gch288 gdh288 nsh288 neh288 seh288 Eh288 := ⟨k293, k294⟩
                    have Vw295 : am_f2 _ h291 n := (am_fr.st e292 (by omega) (by omega) : am_fr _ _ n (n + 1)).f2
                    have Yh291' : am_f2 hh h291 n := Yh288'.tr Vw295
                    have hbh291 : h291.1 (n + 1) = some (100, 800, bf, am_N) := (Yh291'.2 (n + 1) (by omega) (by omega)).trans hb100
                    obtain ⟨m0h291, m1h291⟩ := id Mw295
                    have R181 := Rhh.f2 Yh291'
                    have V181 : am_fr h h291 n (n + 14) := am_fr.tr Vhh (Yh291').nn
                    have K181 := ((Yh291').2 (n + 13) (by omega) (by omega)).trans Khh
                    refine q_blk (lv2 := [(0, vr n)]) (st2 := [vr n]) kX9_load_181 rfl ?_
                    refine q_Vi (av := []) (st := []) (c_X9_isGood_b Mw295 Zh288) lk_RX9_145 (by decide) rfl rfl Mw295.ob ⟨_, rfl, rfl⟩ (Nat.le_of_ble_eq_true rfl) eX9_load_182 (fun z296 e297 => ?_)
                    subst e297
                    refine AQ.of (AS.if_ne_f eX9_load_185 ⟨by decide, by decide⟩ (by decide) (by decide)) ?_
                    refine q_blk (lv2 := [(0, vr n)]) (st2 := [vr n]) kX9_load_188 rfl ?_
                    refine q_gr eX9_load_189 fl_RX9_20 (Or.inr ⟨_, rfl⟩) m0h291 rfl ?_
                    refine q_blk (lv2 := [(0, vr n)]) (st2 := [vr n, vr (n + 3)]) kX9_load_192 rfl ?_
                    refine q_gr eX9_load_193 fl_RX9_17 (Or.inr ⟨_, rfl⟩) m0h291 rfl ?_
                    refine AQ.callSv (av := [vr (n + 3), vr (n + 2)]) (st := []) (c_X9_copy (a := (n + 3)) (b := (n + 2)) R181.2.1 m1h291 (by omega)) lk_RX9_245 (by decide) rfl rfl (Nat.le_of_ble_eq_true rfl) eX9_load_196 (fun h300 e299 => ?_)
                    obtain ⟨Ch300, Fh300⟩ := e299
                    have M199 : MM h300 n 0 0 len psh288 eh288 ah288 ah288 ud gah288 gbh288 gch288 gdh288 nsh288 neh288 seh288 (gm_cp (gm_cp D od 1528) Eh288 1528) := ⟨(Fh300.2 n (by omega)).trans m0h291, Ch300⟩
                    have Vh300 : am_fr h h300 n (n + 14) := am_fr.tr V181 (am_fr.mo Fh300 (by omega) (by omega))
                    have Rh300 := R181.kept Fh300 (by omega)
                    have Kh300 := (Fh300.2 (n + 13) (by omega)).trans K181
                    obtain ⟨m0h300, m1h300⟩ := id M199
                    refine q_blk (lv2 := [(0, vr n)]) (st2 := [vr n]) kX9_load_199 rfl ?_
                    refine q_gi eX9_load_200 fl_RX9_139 (Or.inl rfl) m0h300 (z := eh288) rfl ?_
                    exact q_ri rfl eX9_load_203 ⟨eh288, rfl, Or.inr ⟨hlb, Or.inl ⟨_, _, _, hRX, rfl, (gm_cp_8 _ _).tr (gm_cp_8 _ _), ⟨_, _, _, _, _, _, _, _, _, _, _, _, _, M199, Rh300, Kh300⟩⟩⟩, Vh300⟩
              · skip
                have Yh267' : am_f2 hh h267 n := Yh260'.tr Vh267
                have hbh267 : h267.1 (n + 1) = some (100, 800, bf, am_N) := (Yh267'.2 (n + 1) (by omega) (by omega)).trans hb100
                obtain ⟨m0h267, m1h267⟩ := id Mh267
                have Zh267 : eh267 ≠ 0 ∧ am_r eh267 := by rw [Eh267]; exact ⟨by decide, by decide, by decide⟩
                refine q_blk (lv2 := [(0, vr n), (1, vi len), (2, vi k)]) (st2 := [vr n]) kX9_load_151 rfl ?_
                refine q_Vi (av := []) (st := []) (c_X9_isGood_b Mh267 Zh267) lk_RX9_145 (by decide) rfl rfl Mh267.ob ⟨_, rfl, rfl⟩ (Nat.le_of_ble_eq_true rfl) eX9_load_152 (fun z301 e302 => ?_)
                subst e302
                refine AQ.of (AS.if_eq_t (tgt := 173) eX9_load_155 (by decide) ⟨by decide, by decide⟩ (by decide)) ?_
                refine q_blk (lv2 := [(0, vr n), (1, vi len), (2, vi k)]) (st2 := [vr n, vr n]) kX9_load_173 rfl ?_
                refine q_gi eX9_load_175 fl_RX9_142 (Or.inl rfl) m0h267 (z := ah267) rfl ?_
                refine q_pi eX9_load_178 fl_RX9_13 (fun q hq => by cases hq; exact Or.inl rfl) (Or.inl rfl) m0h267 (Nat.le_of_ble_eq_true rfl) (l2 := [0, 0, 0, len, (st (((0 + 1) + 1) + 1)), eh267, ah267, ah267, 0, 0, 0, ud, g0, g1, g2, g3, (st ((0 + 1) + 1)), 0, 0, 0]) rfl (fun h303 e304 => ?_)
                have k305 := am_at e304
                have k306 := (am_ne e304 (n + 2) (by omega)).trans m1h267
                have Mw307 : MM h303 n 0 0 len (st (((0 + 1) + 1) + 1)) eh267 ah267 ah267 ud g0 g1 g2 g3 (st ((0 + 1) + 1)) 0 0 (am_uI (am_uI E0 0 z249) 1 z257) := ⟨k305, k306⟩
                have Vw307 : am_f2 _ h303 n := (am_fr.st e304 (by omega) (by omega) : am_fr _ _ n (n + 1)).f2
                have Yh303' : am_f2 hh h303 n := Yh267'.tr Vw307
                have hbh303 : h303.1 (n + 1) = some (100, 800, bf, am_N) := (Yh303'.2 (n + 1) (by omega) (by omega)).trans hb100
                obtain ⟨m0h303, m1h303⟩ := id Mw307
                have R181 := Rhh.f2 Yh303'
                have V181 : am_fr h h303 n (n + 14) := am_fr.tr Vhh (Yh303').nn
                have K181 := ((Yh303').2 (n + 13) (by omega) (by omega)).trans Khh
                refine q_blk (lv2 := [(0, vr n), (1, vi len), (2, vi k)]) (st2 := [vr n]) kX9_load_181 rfl ?_
                refine q_Vi (av := []) (st := []) (c_X9_isGood_b Mw307 Zh267) lk_RX9_145 (by decide) rfl rfl Mw307.ob ⟨_, rfl, rfl⟩ (Nat.le_of_ble_eq_true rfl) eX9_load_182 (fun z308 e309 => ?_)
                subst e309
                refine AQ.of (AS.if_ne_f eX9_load_185 ⟨by decide, by decide⟩ (by decide) (by decide)) ?_
                refine q_blk (lv2 := [(0, vr n), (1, vi len), (2, vi k)]) (st2 := [vr n]) kX9_load_188 rfl ?_
                refine q_gr eX9_load_189 fl_RX9_20 (Or.inr ⟨_, rfl⟩) m0h303 rfl ?_
                refine q_blk (lv2 := [(0, vr n), (1, vi len), (2, vi k)]) (st2 := [vr n, vr (n + 3)]) kX9_load_192 rfl ?_
                refine q_gr eX9_load_193 fl_RX9_17 (Or.inr ⟨_, rfl⟩) m0h303 rfl ?_
                refine AQ.callSv (av := [vr (n + 3), vr (n + 2)]) (st := []) (c_X9_copy (a := (n + 3)) (b := (n + 2)) R181.2.1 m1h303 (by omega)) lk_RX9_245 (by decide) rfl rfl (Nat.le_of_ble_eq_true rfl) eX9_load_196 (fun h312 e311 => ?_)
                obtain ⟨Ch312, Fh312⟩ := e311
                have M199 : MM h312 n 0 0 len (st (((0 + 1) + 1) + 1)) eh267 ah267 ah267 ud g0 g1 g2 g3 (st ((0 + 1) + 1)) 0 0 (gm_cp (gm_cp D od 1528) (am_uI (am_uI E0 0 z249) 1 z257) 1528) := ⟨(Fh312.2 n (by omega)).trans m0h303, Ch312⟩
                have Vh312 : am_fr h h312 n (n + 14) := am_fr.tr V181 (am_fr.mo Fh312 (by omega) (by omega))
                have Rh312 := R181.kept Fh312 (by omega)
                have Kh312 := (Fh312.2 (n + 13) (by omega)).trans K181
                obtain ⟨m0h312, m1h312⟩ := id M199
                refine q_blk (lv2 := [(0, vr n), (1, vi len), (2, vi k)]) (st2 := [vr n]) kX9_load_199 rfl ?_
                refine q_gi eX9_load_200 fl_RX9_139 (Or.inl rfl) m0h312 (z := eh267) rfl ?_
                exact q_ri rfl eX9_load_203 ⟨eh267, rfl, Or.inr ⟨hlb, Or.inl ⟨_, _, _, rD_4 Kh248 Kh251 Kh259 Kh267, rfl, (gm_cp_8 _ _).tr (gm_cp_8 _ _), ⟨_, _, _, _, _, _, _, _, _, _, _, _, _, M199, Rh312, Kh312⟩⟩⟩, Vh312⟩
            · skip
              have Yh259' : am_f2 hh h259 n := Yh252'.tr Vh259
              have hbh259 : h259.1 (n + 1) = some (100, 800, bf, am_N) := (Yh259'.2 (n + 1) (by omega) (by omega)).trans hb100
              obtain ⟨m0h259, m1h259⟩ := id Mh259
              refine q_is eX9_load_144 m1h259 (by omega) (by omega) (fun h313 e314 => ?_)
              have k315 := (am_ne e314 n (by omega)).trans m0h259
              have k316 := am_at e314
              have Mw317 : MM h313 n 0 0 len pxh259 eh259 ah259 eo ud g0 g1 g2 g3 nh259 0 0 (am_uI (am_uI E0 0 z249) 1 z257) := ⟨k315, k316⟩
              have Vw317 : am_f2 _ h313 n := (am_fr.st e314 (by omega) (by omega) : am_fr _ _ (n + 2) (n + 3)).f2d
              have Yh313' : am_f2 hh h313 n := Yh259'.tr Vw317
              have hbh313 : h313.1 (n + 1) = some (100, 800, bf, am_N) := (Yh313'.2 (n + 1) (by omega) (by omega)).trans hb100
              obtain ⟨m0h313, m1h313⟩ := id Mw317
              refine q_blk (lv2 := [(0, vr n), (1, vi len), (2, vi k)]) (st2 := [vi 59, vr n]) kX9_load_145 rfl ?_
              refine AQ.callVv (av := [vi 59]) (st := []) (c_X9_expect_b Mw317 Zh259 (c := 59)) lk_RX9_179 (by decide) rfl rfl Mw317.ob ⟨_, rfl, rfl⟩ (Nat.le_of_ble_eq_true rfl) eX9_load_148 (fun h320 e319 => ?_)
              subst e319
              refine q_blk (lv2 := [(0, vr n), (1, vi len), (2, vi k)]) (st2 := [vr n]) kX9_load_151 rfl ?_
              refine q_Vi (av := []) (st := []) (c_X9_isGood_b Mw317 Zh259) lk_RX9_145 (by decide) rfl rfl Mw317.ob ⟨_, rfl, rfl⟩ (Nat.le_of_ble_eq_true rfl) eX9_load_152 (fun z321 e322 => ?_)
              subst e322
              refine AQ.of (AS.if_eq_t (tgt := 173) eX9_load_155 (by decide) ⟨by decide, by decide⟩ (by decide)) ?_
              refine q_blk (lv2 := [(0, vr n), (1, vi len), (2, vi k)]) (st2 := [vr n, vr n]) kX9_load_173 rfl ?_
              refine q_gi eX9_load_175 fl_RX9_142 (Or.inl rfl) m0h313 (z := ah259) rfl ?_
              refine q_pi eX9_load_178 fl_RX9_13 (fun q hq => by cases hq; exact Or.inl rfl) (Or.inl rfl) m0h313 (Nat.le_of_ble_eq_true rfl) (l2 := [0, 0, 0, len, pxh259, eh259, ah259, ah259, 0, 0, 0, ud, g0, g1, g2, g3, nh259, 0, 0, 0]) rfl (fun h323 e324 => ?_)
              have k325 := am_at e324
              have k326 := (am_ne e324 (n + 2) (by omega)).trans m1h313
              have Mw327 : MM h323 n 0 0 len pxh259 eh259 ah259 ah259 ud g0 g1 g2 g3 nh259 0 0 (am_uI (am_uI E0 0 z249) 1 z257) := ⟨k325, k326⟩
              have Vw327 : am_f2 _ h323 n := (am_fr.st e324 (by omega) (by omega) : am_fr _ _ n (n + 1)).f2
              have Yh323' : am_f2 hh h323 n := Yh313'.tr Vw327
              have hbh323 : h323.1 (n + 1) = some (100, 800, bf, am_N) := (Yh323'.2 (n + 1) (by omega) (by omega)).trans hb100
              obtain ⟨m0h323, m1h323⟩ := id Mw327
              have R181 := Rhh.f2 Yh323'
              have V181 : am_fr h h323 n (n + 14) := am_fr.tr Vhh (Yh323').nn
              have K181 := ((Yh323').2 (n + 13) (by omega) (by omega)).trans Khh
              refine q_blk (lv2 := [(0, vr n), (1, vi len), (2, vi k)]) (st2 := [vr n]) kX9_load_181 rfl ?_
              refine q_Vi (av := []) (st := []) (c_X9_isGood_b Mw327 Zh259) lk_RX9_145 (by decide) rfl rfl Mw327.ob ⟨_, rfl, rfl⟩ (Nat.le_of_ble_eq_true rfl) eX9_load_182 (fun z328 e329 => ?_)
              subst e329
              refine AQ.of (AS.if_ne_f eX9_load_185 ⟨by decide, by decide⟩ (by decide) (by decide)) ?_
              refine q_blk (lv2 := [(0, vr n), (1, vi len), (2, vi k)]) (st2 := [vr n]) kX9_load_188 rfl ?_
              refine q_gr eX9_load_189 fl_RX9_20 (Or.inr ⟨_, rfl⟩) m0h323 rfl ?_
              refine q_blk (lv2 := [(0, vr n), (1, vi len), (2, vi k)]) (st2 := [vr n, vr (n + 3)]) kX9_load_192 rfl ?_
              refine q_gr eX9_load_193 fl_RX9_17 (Or.inr ⟨_, rfl⟩) m0h323 rfl ?_
              refine AQ.callSv (av := [vr (n + 3), vr (n + 2)]) (st := []) (c_X9_copy (a := (n + 3)) (b := (n + 2)) R181.2.1 m1h323 (by omega)) lk_RX9_245 (by decide) rfl rfl (Nat.le_of_ble_eq_true rfl) eX9_load_196 (fun h332 e331 => ?_)
              obtain ⟨Ch332, Fh332⟩ := e331
              have M199 : MM h332 n 0 0 len pxh259 eh259 ah259 ah259 ud g0 g1 g2 g3 nh259 0 0 (gm_cp (gm_cp D od 1528) (am_uI (am_uI E0 0 z249) 1 z257) 1528) := ⟨(Fh332.2 n (by omega)).trans m0h323, Ch332⟩
              have Vh332 : am_fr h h332 n (n + 14) := am_fr.tr V181 (am_fr.mo Fh332 (by omega) (by omega))
              have Rh332 := R181.kept Fh332 (by omega)
              have Kh332 := (Fh332.2 (n + 13) (by omega)).trans K181
              obtain ⟨m0h332, m1h332⟩ := id M199
              refine q_blk (lv2 := [(0, vr n), (1, vi len), (2, vi k)]) (st2 := [vr n]) kX9_load_199 rfl ?_
              refine q_gi eX9_load_200 fl_RX9_139 (Or.inl rfl) m0h332 (z := eh259) rfl ?_
              exact q_ri rfl eX9_load_203 ⟨eh259, rfl, Or.inr ⟨hlb, Or.inl ⟨_, _, _, rD_3 Kh248 Kh251 Kh259, rfl, (gm_cp_8 _ _).tr (gm_cp_8 _ _), ⟨_, _, _, _, _, _, _, _, _, _, _, _, _, M199, Rh332, Kh332⟩⟩⟩, Vh332⟩
          · skip
            have Yh251' : am_f2 hh h251 n := Yh248'.tr Vh251
            have hbh251 : h251.1 (n + 1) = some (100, 800, bf, am_N) := (Yh251'.2 (n + 1) (by omega) (by omega)).trans hb100
            obtain ⟨m0h251, m1h251⟩ := id Mh251
            refine q_is eX9_load_131 m1h251 (by omega) (by omega) (fun h333 e334 => ?_)
            have k335 := (am_ne e334 n (by omega)).trans m0h251
            have k336 := am_at e334
            have Mw337 : MM h333 n 0 0 len pxh251 eh251 ah251 eo ud g0 g1 g2 g3 nh251 0 0 (am_uI E0 0 z249) := ⟨k335, k336⟩
            have Vw337 : am_f2 _ h333 n := (am_fr.st e334 (by omega) (by omega) : am_fr _ _ (n + 2) (n + 3)).f2d
            have Yh333' : am_f2 hh h333 n := Yh251'.tr Vw337
            have hbh333 : h333.1 (n + 1) = some (100, 800, bf, am_N) := (Yh333'.2 (n + 1) (by omega) (by omega)).trans hb100
            obtain ⟨m0h333, m1h333⟩ := id Mw337
            refine q_blk (lv2 := [(0, vr n), (1, vi len), (2, vi k)]) (st2 := [vr n]) kX9_load_132 rfl ?_
            refine q_gr eX9_load_133 fl_RX9_17 (Or.inr ⟨_, rfl⟩) m0h333 rfl ?_
            refine q_blk (lv2 := [(0, vr n), (1, vi len), (2, vi k)]) (st2 := [vi 30, vi 2, vr n, vi 1, vr (n + 2)]) kX9_load_136 rfl ?_
            refine q_Vi (av := [vi 2, vi 30]) (st := [vi 1, vr (n + 2)]) (c_X9_number_b Mw337 Zh251 (lo := 2) (hi := 30)) lk_RX9_197 (by decide) rfl rfl Mw337.ob ⟨_, rfl, rfl⟩ (Nat.le_of_ble_eq_true rfl) eX9_load_141 (fun z338 e339 => ?_)
            subst e339
            refine q_is eX9_load_144 m1h333 (by omega) (by omega) (fun h340 e341 => ?_)
            have k342 := (am_ne e341 n (by omega)).trans m0h333
            have k343 := am_at e341
            have Mw344 : MM h340 n 0 0 len pxh251 eh251 ah251 eo ud g0 g1 g2 g3 nh251 0 0 (am_uI (am_uI E0 0 z249) 1 0) := ⟨k342, k343⟩
            have Vw344 : am_f2 _ h340 n := (am_fr.st e341 (by omega) (by omega) : am_fr _ _ (n + 2) (n + 3)).f2d
            have Yh340' : am_f2 hh h340 n := Yh333'.tr Vw344
            have hbh340 : h340.1 (n + 1) = some (100, 800, bf, am_N) := (Yh340'.2 (n + 1) (by omega) (by omega)).trans hb100
            obtain ⟨m0h340, m1h340⟩ := id Mw344
            refine q_blk (lv2 := [(0, vr n), (1, vi len), (2, vi k)]) (st2 := [vi 59, vr n]) kX9_load_145 rfl ?_
            refine AQ.callVv (av := [vi 59]) (st := []) (c_X9_expect_b Mw344 Zh251 (c := 59)) lk_RX9_179 (by decide) rfl rfl Mw344.ob ⟨_, rfl, rfl⟩ (Nat.le_of_ble_eq_true rfl) eX9_load_148 (fun h347 e346 => ?_)
            subst e346
            refine q_blk (lv2 := [(0, vr n), (1, vi len), (2, vi k)]) (st2 := [vr n]) kX9_load_151 rfl ?_
            refine q_Vi (av := []) (st := []) (c_X9_isGood_b Mw344 Zh251) lk_RX9_145 (by decide) rfl rfl Mw344.ob ⟨_, rfl, rfl⟩ (Nat.le_of_ble_eq_true rfl) eX9_load_152 (fun z348 e349 => ?_)
            subst e349
            refine AQ.of (AS.if_eq_t (tgt := 173) eX9_load_155 (by decide) ⟨by decide, by decide⟩ (by decide)) ?_
            refine q_blk (lv2 := [(0, vr n), (1, vi len), (2, vi k)]) (st2 := [vr n, vr n]) kX9_load_173 rfl ?_
            refine q_gi eX9_load_175 fl_RX9_142 (Or.inl rfl) m0h340 (z := ah251) rfl ?_
            refine q_pi eX9_load_178 fl_RX9_13 (fun q hq => by cases hq; exact Or.inl rfl) (Or.inl rfl) m0h340 (Nat.le_of_ble_eq_true rfl) (l2 := [0, 0, 0, len, pxh251, eh251, ah251, ah251, 0, 0, 0, ud, g0, g1, g2, g3, nh251, 0, 0, 0]) rfl (fun h350 e351 => ?_)
            have k352 := am_at e351
            have k353 := (am_ne e351 (n + 2) (by omega)).trans m1h340
            have Mw354 : MM h350 n 0 0 len pxh251 eh251 ah251 ah251 ud g0 g1 g2 g3 nh251 0 0 (am_uI (am_uI E0 0 z249) 1 0) := ⟨k352, k353⟩
            have Vw354 : am_f2 _ h350 n := (am_fr.st e351 (by omega) (by omega) : am_fr _ _ n (n + 1)).f2
            have Yh350' : am_f2 hh h350 n := Yh340'.tr Vw354
            have hbh350 : h350.1 (n + 1) = some (100, 800, bf, am_N) := (Yh350'.2 (n + 1) (by omega) (by omega)).trans hb100
            obtain ⟨m0h350, m1h350⟩ := id Mw354
            have R181 := Rhh.f2 Yh350'
            have V181 : am_fr h h350 n (n + 14) := am_fr.tr Vhh (Yh350').nn
            have K181 := ((Yh350').2 (n + 13) (by omega) (by omega)).trans Khh
            refine q_blk (lv2 := [(0, vr n), (1, vi len), (2, vi k)]) (st2 := [vr n]) kX9_load_181 rfl ?_
            refine q_Vi (av := []) (st := []) (c_X9_isGood_b Mw354 Zh251) lk_RX9_145 (by decide) rfl rfl Mw354.ob ⟨_, rfl, rfl⟩ (Nat.le_of_ble_eq_true rfl) eX9_load_182 (fun z355 e356 => ?_)
            subst e356
            refine AQ.of (AS.if_ne_f eX9_load_185 ⟨by decide, by decide⟩ (by decide) (by decide)) ?_
            refine q_blk (lv2 := [(0, vr n), (1, vi len), (2, vi k)]) (st2 := [vr n]) kX9_load_188 rfl ?_
            refine q_gr eX9_load_189 fl_RX9_20 (Or.inr ⟨_, rfl⟩) m0h350 rfl ?_
            refine q_blk (lv2 := [(0, vr n), (1, vi len), (2, vi k)]) (st2 := [vr n, vr (n + 3)]) kX9_load_192 rfl ?_
            refine q_gr eX9_load_193 fl_RX9_17 (Or.inr ⟨_, rfl⟩) m0h350 rfl ?_
            refine AQ.callSv (av := [vr (n + 3), vr (n + 2)]) (st := []) (c_X9_copy (a := (n + 3)) (b := (n + 2)) R181.2.1 m1h350 (by omega)) lk_RX9_245 (by decide) rfl rfl (Nat.le_of_ble_eq_true rfl) eX9_load_196 (fun h359 e358 => ?_)
            obtain ⟨Ch359, Fh359⟩ := e358
            have M199 : MM h359 n 0 0 len pxh251 eh251 ah251 ah251 ud g0 g1 g2 g3 nh251 0 0 (gm_cp (gm_cp D od 1528) (am_uI (am_uI E0 0 z249) 1 0) 1528) := ⟨(Fh359.2 n (by omega)).trans m0h350, Ch359⟩
            have Vh359 : am_fr h h359 n (n + 14) := am_fr.tr V181 (am_fr.mo Fh359 (by omega) (by omega))
            have Rh359 := R181.kept Fh359 (by omega)
            have Kh359 := (Fh359.2 (n + 13) (by omega)).trans K181
            obtain ⟨m0h359, m1h359⟩ := id M199
            refine q_blk (lv2 := [(0, vr n), (1, vi len), (2, vi k)]) (st2 := [vr n]) kX9_load_199 rfl ?_
            refine q_gi eX9_load_200 fl_RX9_139 (Or.inl rfl) m0h359 (z := eh251) rfl ?_
            exact q_ri rfl eX9_load_203 ⟨eh251, rfl, Or.inr ⟨hlb, Or.inl ⟨_, _, _, rD_2 Kh248 Kh251, rfl, (gm_cp_8 _ _).tr (gm_cp_8 _ _), ⟨_, _, _, _, _, _, _, _, _, _, _, _, _, M199, Rh359, Kh359⟩⟩⟩, Vh359⟩
        · skip
          have Yh248' : am_f2 hh h248 n := Vh248
          have hbh248 : h248.1 (n + 1) = some (100, 800, bf, am_N) := (Yh248'.2 (n + 1) (by omega) (by omega)).trans hb100
          obtain ⟨m0h248, m1h248⟩ := id Mh248
          have Ph248 := hp.at hg hl.1
          rw [show gm_wc 1 = 3 from rfl] at Kh248
          refine AQ.of (AS.if_ne_f eX9_load_106 ⟨by decide, by decide⟩ (by decide) (by decide)) ?_
          refine q_blk (lv2 := [(0, vr n), (1, vi len), (2, vi k)]) (st2 := [vr n, vi (-2), vr n]) kX9_load_109 rfl ?_
          refine q_gi eX9_load_113 fl_RX9_133 (Or.inl rfl) m0h248 (z := (st 0)) rfl ?_
          refine AQ.callVv (av := [vi (-2), vi (st 0)]) (st := []) (c_X9_report_g Mh248 (k := (-2)) (a := (st 0))) lk_RX9_162 (by decide) rfl rfl Mh248.ob ⟨_, rfl, rfl⟩ (Nat.le_of_ble_eq_true rfl) eX9_load_116 (fun h362 e361 => ?_)
          obtain ⟨Mh362, Fh362⟩ := e361
          have Vh362 : am_f2 hh h362 n := Yh248'.tr (Fh362.f2)
          have hbh362 : h362.1 (n + 1) = some (100, 800, bf, am_N) := (Vh362.2 (n + 1) (by omega) (by omega)).trans hb100
          obtain ⟨m0h362, m1h362⟩ := id Mh362
          have Yh362 : ((-2) : Int) ≠ 0 ∧ am_r (-2) := ⟨by decide, by decide, by decide⟩
          refine q_blk (lv2 := [(0, vr n), (1, vi len), (2, vi k)]) (st2 := [vr n]) kX9_load_119 rfl ?_
          refine q_gr eX9_load_120 fl_RX9_17 (Or.inr ⟨_, rfl⟩) m0h362 rfl ?_
          refine q_blk (lv2 := [(0, vr n), (1, vi len), (2, vi k)]) (st2 := [vi 30, vi 2, vr n, vi 0, vr (n + 2)]) kX9_load_123 rfl ?_
          refine q_Vi (av := [vi 2, vi 30]) (st := [vi 0, vr (n + 2)]) (c_X9_number_b Mh362 Yh362 (lo := 2) (hi := 30)) lk_RX9_197 (by decide) rfl rfl Mh362.ob ⟨_, rfl, rfl⟩ (Nat.le_of_ble_eq_true rfl) eX9_load_128 (fun z363 e364 => ?_)
          subst e364
          refine q_is eX9_load_131 m1h362 (by omega) (by omega) (fun h365 e366 => ?_)
          have k367 := (am_ne e366 n (by omega)).trans m0h362
          have k368 := am_at e366
          have Mw369 : MM h365 n 0 0 len (st 0) (-2) (st 0) eo ud g0 g1 g2 g3 ns 0 0 (am_uI E0 0 0) := ⟨k367, k368⟩
          have Vw369 : am_f2 _ h365 n := (am_fr.st e366 (by omega) (by omega) : am_fr _ _ (n + 2) (n + 3)).f2d
          have Yh365' : am_f2 hh h365 n := Vh362.tr Vw369
          have hbh365 : h365.1 (n + 1) = some (100, 800, bf, am_N) := (Yh365'.2 (n + 1) (by omega) (by omega)).trans hb100
          obtain ⟨m0h365, m1h365⟩ := id Mw369
          refine q_blk (lv2 := [(0, vr n), (1, vi len), (2, vi k)]) (st2 := [vr n]) kX9_load_132 rfl ?_
          refine q_gr eX9_load_133 fl_RX9_17 (Or.inr ⟨_, rfl⟩) m0h365 rfl ?_
          refine q_blk (lv2 := [(0, vr n), (1, vi len), (2, vi k)]) (st2 := [vi 30, vi 2, vr n, vi 1, vr (n + 2)]) kX9_load_136 rfl ?_
          refine q_Vi (av := [vi 2, vi 30]) (st := [vi 1, vr (n + 2)]) (c_X9_number_b Mw369 Yh362 (lo := 2) (hi := 30)) lk_RX9_197 (by decide) rfl rfl Mw369.ob ⟨_, rfl, rfl⟩ (Nat.le_of_ble_eq_true rfl) eX9_load_141 (fun z370 e371 => ?_)
          subst e371
          refine q_is eX9_load_144 m1h365 (by omega) (by omega) (fun h372 e373 => ?_)
          have k374 := (am_ne e373 n (by omega)).trans m0h365
          have k375 := am_at e373
          have Mw376 : MM h372 n 0 0 len (st 0) (-2) (st 0) eo ud g0 g1 g2 g3 ns 0 0 (am_uI (am_uI E0 0 0) 1 0) := ⟨k374, k375⟩
          have Vw376 : am_f2 _ h372 n := (am_fr.st e373 (by omega) (by omega) : am_fr _ _ (n + 2) (n + 3)).f2d
          have Yh372' : am_f2 hh h372 n := Yh365'.tr Vw376
          have hbh372 : h372.1 (n + 1) = some (100, 800, bf, am_N) := (Yh372'.2 (n + 1) (by omega) (by omega)).trans hb100
          obtain ⟨m0h372, m1h372⟩ := id Mw376
          refine q_blk (lv2 := [(0, vr n), (1, vi len), (2, vi k)]) (st2 := [vi 59, vr n]) kX9_load_145 rfl ?_
          refine AQ.callVv (av := [vi 59]) (st := []) (c_X9_expect_b Mw376 Yh362 (c := 59)) lk_RX9_179 (by decide) rfl rfl Mw376.ob ⟨_, rfl, rfl⟩ (Nat.le_of_ble_eq_true rfl) eX9_load_148 (fun h379 e378 => ?_)
          subst e378
          refine q_blk (lv2 := [(0, vr n), (1, vi len), (2, vi k)]) (st2 := [vr n]) kX9_load_151 rfl ?_
          refine q_Vi (av := []) (st := []) (c_X9_isGood_b Mw376 Yh362) lk_RX9_145 (by decide) rfl rfl Mw376.ob ⟨_, rfl, rfl⟩ (Nat.le_of_ble_eq_true rfl) eX9_load_152 (fun z380 e381 => ?_)
          subst e381
          refine AQ.of (AS.if_eq_t (tgt := 173) eX9_load_155 (by decide) ⟨by decide, by decide⟩ (by decide)) ?_
          refine q_blk (lv2 := [(0, vr n), (1, vi len), (2, vi k)]) (st2 := [vr n, vr n]) kX9_load_173 rfl ?_
          refine q_gi eX9_load_175 fl_RX9_142 (Or.inl rfl) m0h372 (z := (st 0)) rfl ?_
          refine q_pi eX9_load_178 fl_RX9_13 (fun q hq => by cases hq; exact Or.inl rfl) (Or.inl rfl) m0h372 (Nat.le_of_ble_eq_true rfl) (l2 := [0, 0, 0, len, (st 0), (-2), (st 0), (st 0), 0, 0, 0, ud, g0, g1, g2, g3, ns, 0, 0, 0]) rfl (fun h382 e383 => ?_)
          have k384 := am_at e383
          have k385 := (am_ne e383 (n + 2) (by omega)).trans m1h372
          have Mw386 : MM h382 n 0 0 len (st 0) (-2) (st 0) (st 0) ud g0 g1 g2 g3 ns 0 0 (am_uI (am_uI E0 0 0) 1 0) := ⟨k384, k385⟩
          have Vw386 : am_f2 _ h382 n := (am_fr.st e383 (by omega) (by omega) : am_fr _ _ n (n + 1)).f2
          have Yh382' : am_f2 hh h382 n := Yh372'.tr Vw386
          have hbh382 : h382.1 (n + 1) = some (100, 800, bf, am_N) := (Yh382'.2 (n + 1) (by omega) (by omega)).trans hb100
          obtain ⟨m0h382, m1h382⟩ := id Mw386
          have R181 := Rhh.f2 Yh382'
          have V181 : am_fr h h382 n (n + 14) := am_fr.tr Vhh (Yh382').nn
          have K181 := ((Yh382').2 (n + 13) (by omega) (by omega)).trans Khh
          refine q_blk (lv2 := [(0, vr n), (1, vi len), (2, vi k)]) (st2 := [vr n]) kX9_load_181 rfl ?_
          refine q_Vi (av := []) (st := []) (c_X9_isGood_b Mw386 Yh362) lk_RX9_145 (by decide) rfl rfl Mw386.ob ⟨_, rfl, rfl⟩ (Nat.le_of_ble_eq_true rfl) eX9_load_182 (fun z387 e388 => ?_)
          subst e388
          refine AQ.of (AS.if_ne_f eX9_load_185 ⟨by decide, by decide⟩ (by decide) (by decide)) ?_
          refine q_blk (lv2 := [(0, vr n), (1, vi len), (2, vi k)]) (st2 := [vr n]) kX9_load_188 rfl ?_
          refine q_gr eX9_load_189 fl_RX9_20 (Or.inr ⟨_, rfl⟩) m0h382 rfl ?_
          refine q_blk (lv2 := [(0, vr n), (1, vi len), (2, vi k)]) (st2 := [vr n, vr (n + 3)]) kX9_load_192 rfl ?_
          refine q_gr eX9_load_193 fl_RX9_17 (Or.inr ⟨_, rfl⟩) m0h382 rfl ?_
          refine AQ.callSv (av := [vr (n + 3), vr (n + 2)]) (st := []) (c_X9_copy (a := (n + 3)) (b := (n + 2)) R181.2.1 m1h382 (by omega)) lk_RX9_245 (by decide) rfl rfl (Nat.le_of_ble_eq_true rfl) eX9_load_196 (fun h391 e390 => ?_)
          obtain ⟨Ch391, Fh391⟩ := e390
          have M199 : MM h391 n 0 0 len (st 0) (-2) (st 0) (st 0) ud g0 g1 g2 g3 ns 0 0 (gm_cp (gm_cp D od 1528) (am_uI (am_uI E0 0 0) 1 0) 1528) := ⟨(Fh391.2 n (by omega)).trans m0h382, Ch391⟩
          have Vh391 : am_fr h h391 n (n + 14) := am_fr.tr V181 (am_fr.mo Fh391 (by omega) (by omega))
          have Rh391 := R181.kept Fh391 (by omega)
          have Kh391 := (Fh391.2 (n + 13) (by omega)).trans K181
          obtain ⟨m0h391, m1h391⟩ := id M199
          refine q_blk (lv2 := [(0, vr n), (1, vi len), (2, vi k)]) (st2 := [vr n]) kX9_load_199 rfl ?_
          refine q_gi eX9_load_200 fl_RX9_139 (Or.inl rfl) m0h391 (z := (-2)) rfl ?_
          exact q_ri rfl eX9_load_203 ⟨(-2), rfl, Or.inr ⟨hlb, Or.inl ⟨_, _, _, rD_1 Kh248, rfl, (gm_cp_8 _ _).tr (gm_cp_8 _ _), ⟨_, _, _, _, _, _, _, _, _, _, _, _, _, M199, Rh391, Kh391⟩⟩⟩, Vh391⟩
      · skip
        refine q_blk (lv2 := [(0, vr n), (1, vi len), (2, vi k)]) (st2 := [vr n]) kX9_load_87 rfl ?_
        refine q_gr eX9_load_88 fl_RX9_17 (Or.inr ⟨_, rfl⟩) m0' rfl ?_
        refine q_blk (lv2 := [(0, vr n), (1, vi len), (2, vi k)]) (st2 := [vi 0, vi k, vr (n + 2)]) kX9_load_91 rfl ?_
        refine q_is eX9_load_93 m1' (by omega) (by omega) (fun h392 e393 => ?_)
        have k394 := (am_ne e393 n (by omega)).trans m0'
        have k395 := am_at e393
        refine q_blk (lv2 := [(0, vr n), (1, vi len), (2, vi (k + 1))]) (st2 := []) kX9_load_94 rfl ?_
        refine q_goto (tgt := 80) eX9_load_97 (by decide) ?_
        exact ih243 (k + 1) h392 (⟨⟨by omega, by omega⟩, ⟨k394, by rw [← gm_cp_s (fun _ => 0) D k0]; exact k395⟩, am_fr.tr hf9 (am_fr.st e393 (by omega) (by omega))⟩) (by omega)
