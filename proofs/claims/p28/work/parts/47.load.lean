/-! CornerClaims: checksum, append, load. -/
/-- a byte of a word -/
def gm_by (w s : Int) : Int := (w / s + 128) % 256 - 128
def gm_pw (tx : Int → Int) (bl w : Int) : Int → Int := am_uI (am_uI (am_uI (am_uI tx bl (gm_by w 16777216)) (bl + 1) (gm_by w 65536)) (bl + 1 + 1) (gm_by w 256)) (bl + 1 + 1 + 1) (gm_by w 1)
def gm_pln : GL := [(1, 0), (1, 1), (2, 0)]
def gm_cod (L : Option GL) : GL := match L with
  | none => gm_pln
  | some l => l
def PLN (w : am_w) (h : AH) (o : Nat) : Prop := CD h (w.2 100) gm_pln ∧ w.2 100 < o
theorem PLN.go {w : am_w} {h h1 : AH} {o n : Nat} (k : PLN w h o) (g : am_go n h h1 o) (oz : o ≤ h.2.1) : PLN w h1 o := by
  obtain ⟨⟨ci, f, g9, c0, c1, c2⟩, k3⟩ := k
  exact ⟨⟨ci, f, g9, c0, (g.2 _ (by omega) (by omega)).trans c1, c2⟩, k3⟩
theorem gm_pln_wf : gm_wf gm_pln 0 := ⟨Or.inr (Or.inl ⟨rfl, by decide, by decide⟩), Or.inl ⟨by decide, by decide, Or.inr (Or.inl ⟨rfl, by decide, by decide⟩), Or.inl ⟨by decide, by decide, Or.inr (Or.inr ⟨by decide, by decide⟩), Or.inr ⟨by decide, by decide, rfl⟩⟩⟩⟩
theorem TKA.nil {kd st vl : Int → Int} {l : List (Int × Int × Int)} (h : TKA kd st vl l) : TKA kd st vl [] := ⟨fun k o q => by simp at q, h.2⟩
theorem RE.out {w : am_w} {h hh : AH} {t u a j : Nat} {kd st vl : Int → Int} {res : (Int × Int) ⊕ ((Int → Int) × Option GL)} {z : Int} (k : RE w h hh t u a j kd st vl res z) : ∃ er ea he nu px cl hs cd, SU hh t u a j kd st vl he nu px cl hs er ea cd ∧ (0 ≤ cl ∧ cl ≤ 800) ∧ am_gn 2 h hh t a ∧ BA hh a ∧
    ((z = 1 ∧ ea = -1 ∧ ∃ D L sc cm, res = .inr (D, L) ∧ VD D ∧ VE D ∧ BD hh a D cm sc ∧ SCL w h hh sc L) ∨ (z = 0 ∧ res = .inl (er, ea))) := by
  rcases k with ⟨hz, D, L, e9, sc, nu, px, cl, cd, cm, k1, k2, k3, k4, k5, k6, k7, k8⟩ | ⟨hz, e, a9, k1, ⟨he, nu, px, cl, hs, cd, k2, k3⟩, k4, k5⟩
  · exact ⟨_, _, _, _, _, _, _, _, k4, k5, k8, k6.ba, Or.inl ⟨hz, rfl, D, L, sc, cm, k1, k2, k3, k6, k7⟩⟩
  · exact ⟨_, _, _, _, _, _, _, _, k2, k3, k5, k4, Or.inr ⟨hz, k1⟩⟩
theorem SX.loc {h h1 : AH} {a : Nat} {n cl ow : Int} {xs ys : Int → Int} (hS : SX h a n cl ow xs ys) (f : ∀ q, a ≤ q → q < a + 3 → h1.1 q = h.1 q) : SX h1 a n cl ow xs ys := by
  obtain ⟨fx, fy, ⟨c1, c2, c3⟩, h2⟩ := hS
  exact ⟨fx, fy, ⟨(f _ (by omega) (by omega)).trans c1, (f _ (by omega) (by omega)).trans c2, (f _ (by omega) (by omega)).trans c3⟩, h2⟩
theorem BD.loc {h h1 : AH} {b : Nat} {D cm : Int → Int} {sc : Nat} (hB : BD h b D cm sc) (f : ∀ q, b ≤ q → q < b + 24 → h1.1 q = h.1 q) (hn : D 3 ≤ 6) : BD h1 b D cm sc := by
  obtain ⟨⟨sx, sy, sv, ⟨c0, c1, c2, c3, c4, c5⟩, h2⟩, h3, h4⟩ := hB
  refine ⟨⟨sx, sy, sv, ⟨(f _ (by omega) (by omega)).trans c0, (f _ (by omega) (by omega)).trans c1, (f _ (by omega) (by omega)).trans c2, (f _ (by omega) (by omega)).trans c3, (f _ (by omega) (by omega)).trans c4, (f _ (by omega) (by omega)).trans c5⟩, h2⟩, fun p p0 p1 => ?_, fun p p0 p1 => SX.loc (h4 p p0 p1) (fun q q0 q1 => f q (by omega) (by omega))⟩
  obtain ⟨n, cl, ow, fx, fy, s1, s2, s3⟩ := h3 p p0 p1
  exact ⟨n, cl, ow, fx, fy, (f _ (by omega) (by omega)).trans s1, (f _ (by omega) (by omega)).trans s2, (f _ (by omega) (by omega)).trans s3⟩
theorem BA.loc {h h1 : AH} {b : Nat} (hB : BA h b) (f : ∀ q, b ≤ q → q < b + 24 → h1.1 q = h.1 q) : BA h1 b := by
  obtain ⟨⟨D, sx, sy, sv, cm, sc, c0, c1, c2, c3, c4, c5⟩, h3⟩ := hB
  refine ⟨⟨D, sx, sy, sv, cm, sc, (f _ (by omega) (by omega)).trans c0, (f _ (by omega) (by omega)).trans c1, (f _ (by omega) (by omega)).trans c2, (f _ (by omega) (by omega)).trans c3, (f _ (by omega) (by omega)).trans c4, (f _ (by omega) (by omega)).trans c5⟩, fun p p0 p1 => ?_⟩
  obtain ⟨n, cl, ow, fx, fy, s1, s2, s3⟩ := h3 p p0 p1
  exact ⟨n, cl, ow, fx, fy, (f _ (by omega) (by omega)).trans s1, (f _ (by omega) (by omega)).trans s2, (f _ (by omega) (by omega)).trans s3⟩
theorem LJ.loc {h h1 : AH} {l : Nat} (hL : LJ h l) (f : h1.1 l = h.1 l) : LJ h1 l := by
  obtain ⟨a, b, c, d, e, g, i, j, h1, h2⟩ := hL
  exact ⟨a, b, c, d, e, g, i, j, f.trans h1, h2⟩
theorem SCD.loc9 {h h1 : AH} {s b : Nat} (k : ∃ fg l, SCD h s b fg l) (f : ∀ q, s ≤ q → q < s + 3 → h1.1 q = h.1 q) : ∃ fg l, SCD h1 s b fg l := by
  obtain ⟨fg, l, f9, c0, c1, c2, c3⟩ := k
  exact ⟨fg, l, f9, (f _ (by omega) (by omega)).trans c0, (f _ (by omega) (by omega)).trans c1, (f _ (by omega) (by omega)).trans c2, c3⟩
theorem HL.loc {h h1 : AH} {t : Nat} {l : List ((Int → Int) × (Int → Int) × Nat)} (k : HL h t l) (f : ∀ q, t ≤ q → q < t + 194 → h1.1 q = h.1 q) : HL h1 t l := by
  obtain ⟨nx, n1, c0, c1, n2, k1, k2⟩ := k
  refine ⟨nx, n1, (f _ (by omega) (by omega)).trans c0, (f _ (by omega) (by omega)).trans c1, n2, fun i i0 i1 => (k1 i i0 i1).loc (fun q q0 q1 => f q (by omega) (by omega)), fun q e he => ?_⟩
  have q1 := (List.getElem?_eq_some_iff.mp he).1
  obtain ⟨⟨cm', b1, b2⟩, b3⟩ := k2 q e he
  have hs : 0 ≤ am_hs nx q ∧ am_hs nx q < 8 := by unfold am_hs; split <;> omega
  exact ⟨⟨cm', b1.loc (fun q q0 q1 => f q (by omega) (by omega)) b3.2.2.2.1.2, b2⟩, b3⟩
section CCS3
variable {w : am_w} {h h1 : AH} {o u b a j t s r : Nat} {D cm : Int → Int} {sc : Nat} {L : GL} {tx : Int → Int} {bl le : Int} {Hs : List GE}
/-- a text has been read -/
theorem CCS.rd {kd st vl : Int → Int} {he nu px cl hs er ea : Int} {cd : Int → Int} {l : List (Int × Int × Int)} (k : CCS h o u b a j t s r D cm sc L tx bl le Hs) (hS : SU h1 t u a (t + 1) kd st vl he nu px cl hs er ea cd) (hc : 0 ≤ cl ∧ cl ≤ 800) (hT : TKA kd st vl l) (g : am_gn 2 h h1 t a) (hA : BA h1 a) : CCS h1 o u b a j t s r D cm sc L tx bl le Hs := by
  obtain ⟨⟨k1, k2, k3, k4, k5, k6, k7, k8⟩, c0, ⟨c1, x1⟩, c2, c3, c4, c5, c6, c7, c8, c9, c10, c11⟩ := k
  have G : am_go 2 h h1 o := am_go.gn g (by omega) (by omega) (by omega) (by omega)
  obtain ⟨tc, hS⟩ := hS
  have f1 : ∀ q, q < h.2.1 → ¬ (t ≤ q ∧ q < t + 7) → ¬ (a ≤ q ∧ q < a + 24) → h1.1 q = h.1 q := g.2
  exact ⟨⟨k1, k2, k3, k4, k5, k6, k7, Nat.le_trans k8 g.1.1⟩, (f1 _ (by omega) (by omega) (by omega)).trans c0, ⟨(f1 _ (by omega) (by omega) (by omega)).trans c1, x1⟩, c2, c3.loc (fun q q0 q1 => f1 q (by omega) (by omega) (by omega)) c4.1.2.2.2.1.2, c4.go G (by omega), hA, (f1 _ (by omega) (by omega) (by omega)).trans c6, c7.loc (f1 _ (by omega) (by omega) (by omega)), ⟨kd, st, vl, tc, he, nu, px, cl, hs, er, ea, cd, hS, hT.nil, hc⟩, SCD.loc9 c9 (fun q q0 q1 => f1 q (by omega) (by omega) (by omega)), c10.loc (fun q q0 q1 => f1 q (by omega) (by omega) (by omega)), fun e he => (c11 e he).go G (by omega)⟩
theorem SCL.sw {h9 : AH} {L9 : Option GL} {sc9 : Nat} (k : SCL w h h1 sc9 L9) (hP : PLN w h9 o) (hz : o + 256 ≤ h.2.1) (g : h1.2.1 ≤ h9.2.1) (f : ∀ q, o + 256 ≤ q → q < h1.2.1 → h9.1 q = h1.1 q) : SCW h9 o sc9 (gm_cod L9) := by
  cases L9 with
  | none => cases k; exact ⟨hP.1, gm_pln_wf, Or.inl hP.2⟩
  | some l =>
    obtain ⟨k1, k2, ⟨ci, f9, g9, c0, c1, c2⟩, k3⟩ := k
    exact ⟨⟨ci, f9, g9, c0, (f _ (by omega) k2).trans c1, c2⟩, k3, Or.inr ⟨by omega, by omega⟩⟩
end CCS3

theorem gm_by_r (w s : Int) : -128 ≤ gm_by w s ∧ gm_by w s ≤ 127 := by unfold gm_by; omega
theorem gm_pw_r {tx : Int → Int} (h : ∀ i, -128 ≤ tx i ∧ tx i ≤ 127) {bl w : Int} (i : Int) : -128 ≤ gm_pw tx bl w i ∧ gm_pw tx bl w i ≤ 127 := by
  unfold gm_pw am_uI
  repeat' split
  all_goals first | exact gm_by_r _ _ | exact h i

set_option maxHeartbeats 1000000 in
theorem c_X8_putWord {w : am_w} {h : AH} {o u b a j t s r : Nat} {D cm : Int → Int} {sc : Nat} {L : GL} {tx : Int → Int} {bl le : Int} {Hs : List GE} (hX : CCS h o u b a j t s r D cm sc L tx bl le Hs) (hb4 : bl + 4 ≤ 800) {x : Int} (r_x : am_r x)  : AE w m_X8_putWord 2 [vr o, vi x] h (am_unit (fun h1 => CCS h1 o u b a j t s r D cm sc L (gm_pw tx bl x) (bl + 1 + 1 + 1 + 1) le Hs ∧ am_fr h h1 o (o + 2))) := by
  refine AE.of wf_X8_putWord (Nat.le_of_ble_eq_true rfl) (am_ok_v) ?_
  obtain ⟨ou, ob, oa, oj, ot, os, orr, oz⟩ := id hX.1
  obtain ⟨⟨-, -, -, -, -, -, -, oz_0⟩, c0_0, ⟨hXX_0, xr_0⟩, bl0_0, hB_0, ⟨hD_0, hE_0, hM_0, hS_0⟩, hA_0, hJ_0, hLJ_0, hR_0, ⟨fg_0, ll_0, hSC_0⟩, hH_0, hHs_0⟩ := id hX
  obtain ⟨⟨sx_0, sy_0, sv_0, ⟨b0_0, b1_0, b2_0, b3_0, b4_0, b5_0⟩, hst_0⟩, hall_0, hsh_0⟩ := id hB_0
  have d0_0 := hD_0.1
  have d1_0 := hD_0.2.1
  have d2_0 := hD_0.2.2.1
  have d3_0 := hD_0.2.2.2.1
  have hcr_0 : ∀ k8, 0 ≤ k8 → k8 < D 2 → -1 ≤ cm k8 ∧ cm k8 < 6 := fun k8 k0 k1 => (hM_0 k8 k0 k1).2
  have scz_0 := hS_0.2.2
  refine q_blk (lv2 := [(0, vr o), (1, vi x), (2, vi 24)]) (st2 := []) kX8_putWord_0 rfl ?_
  refine q_blk (lv2 := [(0, vr o), (1, vi x), (2, vi 24)]) (st2 := [vi 24]) kX8_putWord_3 rfl ?_
  refine AQ.of (AS.if_lt_f eX8_putWord_4 ⟨by decide, by decide⟩ (by decide) (by decide)) ?_
  refine q_blk (lv2 := [(0, vr o), (1, vi x), (2, vi 24)]) (st2 := [vr o]) kX8_putWord_7 rfl ?_
  refine q_gi eX8_putWord_8 fl_RX8_55 (Or.inl rfl) c0_0 (z := bl) rfl ?_
  refine q_blk (lv2 := [(0, vr o), (1, vi x), (2, vi 24)]) (st2 := [vr o, vi bl]) kX8_putWord_11 rfl ?_
  refine q_gr eX8_putWord_12 fl_RX8_9 (Or.inr ⟨_, rfl⟩) c0_0 rfl ?_
  refine q_al eX8_putWord_15 hXX_0 (by decide) ?_
  refine AQ.of (AS.ic_ge_f eX8_putWord_16 (by first | assumption | exact ⟨by omega, by omega⟩) ⟨by decide, by decide⟩ (by omega) (by decide)) ?_
  refine q_blk (lv2 := [(0, vr o), (1, vi x), (2, vi 24)]) (st2 := [vr o]) kX8_putWord_19 rfl ?_
  refine q_gr eX8_putWord_20 fl_RX8_9 (Or.inr ⟨_, rfl⟩) c0_0 rfl ?_
  refine q_blk (lv2 := [(0, vr o), (1, vi x), (2, vi 24)]) (st2 := [vr o, vr u]) kX8_putWord_23 rfl ?_
  refine q_gi eX8_putWord_24 fl_RX8_55 (Or.inl rfl) c0_0 (z := bl) rfl ?_
  refine q_blk (lv2 := [(0, vr o), (1, vi x), (2, vi 24)]) (st2 := [vi 24, vi x, vi bl, vr u]) kX8_putWord_27 rfl ?_
  refine AQ.of (AS.ishr (a := x) (b := 24) eX8_putWord_29 r_x (by decide) (by decide)) ?_
  rw [show (((2 ^ Int.toNat 24 : Nat)) : Int) = 16777216 from rfl]
  refine AQ.of (AS.i2b eX8_putWord_30) ?_
  refine q_bs eX8_putWord_31 hXX_0 (by omega) (by omega) (by omega) (by omega) (fun h2 e3 => ?_)
  have k4 := (am_ne e3 o (by omega)).trans c0_0
  have k5 := am_at e3
  refine q_blk (lv2 := [(0, vr o), (1, vi x), (2, vi 24)]) (st2 := [vr o, vr o]) kX8_putWord_32 rfl ?_
  refine q_gi eX8_putWord_34 fl_RX8_55 (Or.inl rfl) k4 (z := bl) rfl ?_
  refine q_blk (lv2 := [(0, vr o), (1, vi x), (2, vi 24)]) (st2 := [vi (bl + 1), vr o]) kX8_putWord_37 rfl ?_
  refine q_pi eX8_putWord_39 fl_RX8_55 (fun q hq => by cases hq; exact Or.inl rfl) (Or.inl rfl) k4 (Nat.le_of_ble_eq_true rfl) (l2 := [0, 0, 0, 0, 0, 0, 0, (bl + 1), le]) rfl (fun h6 e7 => ?_)
  have k8 := am_at e7
  have k9 := (am_ne e7 u (by omega)).trans k5
  refine q_blk (lv2 := [(0, vr o), (1, vi x), (2, vi 16)]) (st2 := []) kX8_putWord_42 rfl ?_
  refine q_goto (tgt := 3) eX8_putWord_45 (by decide) ?_
  refine q_blk (lv2 := [(0, vr o), (1, vi x), (2, vi 16)]) (st2 := [vi 16]) kX8_putWord_3 rfl ?_
  refine AQ.of (AS.if_lt_f eX8_putWord_4 ⟨by decide, by decide⟩ (by decide) (by decide)) ?_
  refine q_blk (lv2 := [(0, vr o), (1, vi x), (2, vi 16)]) (st2 := [vr o]) kX8_putWord_7 rfl ?_
  refine q_gi eX8_putWord_8 fl_RX8_55 (Or.inl rfl) k8 (z := (bl + 1)) rfl ?_
  refine q_blk (lv2 := [(0, vr o), (1, vi x), (2, vi 16)]) (st2 := [vr o, vi (bl + 1)]) kX8_putWord_11 rfl ?_
  refine q_gr eX8_putWord_12 fl_RX8_9 (Or.inr ⟨_, rfl⟩) k8 rfl ?_
  refine q_al eX8_putWord_15 k9 (by decide) ?_
  refine AQ.of (AS.ic_ge_f eX8_putWord_16 (by first | assumption | exact ⟨by omega, by omega⟩) ⟨by decide, by decide⟩ (by omega) (by decide)) ?_
  refine q_blk (lv2 := [(0, vr o), (1, vi x), (2, vi 16)]) (st2 := [vr o]) kX8_putWord_19 rfl ?_
  refine q_gr eX8_putWord_20 fl_RX8_9 (Or.inr ⟨_, rfl⟩) k8 rfl ?_
  refine q_blk (lv2 := [(0, vr o), (1, vi x), (2, vi 16)]) (st2 := [vr o, vr u]) kX8_putWord_23 rfl ?_
  refine q_gi eX8_putWord_24 fl_RX8_55 (Or.inl rfl) k8 (z := (bl + 1)) rfl ?_
  refine q_blk (lv2 := [(0, vr o), (1, vi x), (2, vi 16)]) (st2 := [vi 16, vi x, vi (bl + 1), vr u]) kX8_putWord_27 rfl ?_
  refine AQ.of (AS.ishr (a := x) (b := 16) eX8_putWord_29 r_x (by decide) (by decide)) ?_
  rw [show (((2 ^ Int.toNat 16 : Nat)) : Int) = 65536 from rfl]
  refine AQ.of (AS.i2b eX8_putWord_30) ?_
  refine q_bs eX8_putWord_31 k9 (by omega) (by omega) (by omega) (by omega) (fun h10 e11 => ?_)
  have k12 := (am_ne e11 o (by omega)).trans k8
  have k13 := am_at e11
  refine q_blk (lv2 := [(0, vr o), (1, vi x), (2, vi 16)]) (st2 := [vr o, vr o]) kX8_putWord_32 rfl ?_
  refine q_gi eX8_putWord_34 fl_RX8_55 (Or.inl rfl) k12 (z := (bl + 1)) rfl ?_
  refine q_blk (lv2 := [(0, vr o), (1, vi x), (2, vi 16)]) (st2 := [vi ((bl + 1) + 1), vr o]) kX8_putWord_37 rfl ?_
  refine q_pi eX8_putWord_39 fl_RX8_55 (fun q hq => by cases hq; exact Or.inl rfl) (Or.inl rfl) k12 (Nat.le_of_ble_eq_true rfl) (l2 := [0, 0, 0, 0, 0, 0, 0, ((bl + 1) + 1), le]) rfl (fun h14 e15 => ?_)
  have k16 := am_at e15
  have k17 := (am_ne e15 u (by omega)).trans k13
  refine q_blk (lv2 := [(0, vr o), (1, vi x), (2, vi 8)]) (st2 := []) kX8_putWord_42 rfl ?_
  refine q_goto (tgt := 3) eX8_putWord_45 (by decide) ?_
  refine q_blk (lv2 := [(0, vr o), (1, vi x), (2, vi 8)]) (st2 := [vi 8]) kX8_putWord_3 rfl ?_
  refine AQ.of (AS.if_lt_f eX8_putWord_4 ⟨by decide, by decide⟩ (by decide) (by decide)) ?_
  refine q_blk (lv2 := [(0, vr o), (1, vi x), (2, vi 8)]) (st2 := [vr o]) kX8_putWord_7 rfl ?_
  refine q_gi eX8_putWord_8 fl_RX8_55 (Or.inl rfl) k16 (z := ((bl + 1) + 1)) rfl ?_
  refine q_blk (lv2 := [(0, vr o), (1, vi x), (2, vi 8)]) (st2 := [vr o, vi ((bl + 1) + 1)]) kX8_putWord_11 rfl ?_
  refine q_gr eX8_putWord_12 fl_RX8_9 (Or.inr ⟨_, rfl⟩) k16 rfl ?_
  refine q_al eX8_putWord_15 k17 (by decide) ?_
  refine AQ.of (AS.ic_ge_f eX8_putWord_16 (by first | assumption | exact ⟨by omega, by omega⟩) ⟨by decide, by decide⟩ (by omega) (by decide)) ?_
  refine q_blk (lv2 := [(0, vr o), (1, vi x), (2, vi 8)]) (st2 := [vr o]) kX8_putWord_19 rfl ?_
  refine q_gr eX8_putWord_20 fl_RX8_9 (Or.inr ⟨_, rfl⟩) k16 rfl ?_
  refine q_blk (lv2 := [(0, vr o), (1, vi x), (2, vi 8)]) (st2 := [vr o, vr u]) kX8_putWord_23 rfl ?_
  refine q_gi eX8_putWord_24 fl_RX8_55 (Or.inl rfl) k16 (z := ((bl + 1) + 1)) rfl ?_
  refine q_blk (lv2 := [(0, vr o), (1, vi x), (2, vi 8)]) (st2 := [vi 8, vi x, vi ((bl + 1) + 1), vr u]) kX8_putWord_27 rfl ?_
  refine AQ.of (AS.ishr (a := x) (b := 8) eX8_putWord_29 r_x (by decide) (by decide)) ?_
  rw [show (((2 ^ Int.toNat 8 : Nat)) : Int) = 256 from rfl]
  refine AQ.of (AS.i2b eX8_putWord_30) ?_
  refine q_bs eX8_putWord_31 k17 (by omega) (by omega) (by omega) (by omega) (fun h18 e19 => ?_)
  have k20 := (am_ne e19 o (by omega)).trans k16
  have k21 := am_at e19
  refine q_blk (lv2 := [(0, vr o), (1, vi x), (2, vi 8)]) (st2 := [vr o, vr o]) kX8_putWord_32 rfl ?_
  refine q_gi eX8_putWord_34 fl_RX8_55 (Or.inl rfl) k20 (z := ((bl + 1) + 1)) rfl ?_
  refine q_blk (lv2 := [(0, vr o), (1, vi x), (2, vi 8)]) (st2 := [vi (((bl + 1) + 1) + 1), vr o]) kX8_putWord_37 rfl ?_
  refine q_pi eX8_putWord_39 fl_RX8_55 (fun q hq => by cases hq; exact Or.inl rfl) (Or.inl rfl) k20 (Nat.le_of_ble_eq_true rfl) (l2 := [0, 0, 0, 0, 0, 0, 0, (((bl + 1) + 1) + 1), le]) rfl (fun h22 e23 => ?_)
  have k24 := am_at e23
  have k25 := (am_ne e23 u (by omega)).trans k21
  refine q_blk (lv2 := [(0, vr o), (1, vi x), (2, vi 0)]) (st2 := []) kX8_putWord_42 rfl ?_
  refine q_goto (tgt := 3) eX8_putWord_45 (by decide) ?_
  refine q_blk (lv2 := [(0, vr o), (1, vi x), (2, vi 0)]) (st2 := [vi 0]) kX8_putWord_3 rfl ?_
  refine AQ.of (AS.if_lt_f eX8_putWord_4 ⟨by decide, by decide⟩ (by decide) (by decide)) ?_
  refine q_blk (lv2 := [(0, vr o), (1, vi x), (2, vi 0)]) (st2 := [vr o]) kX8_putWord_7 rfl ?_
  refine q_gi eX8_putWord_8 fl_RX8_55 (Or.inl rfl) k24 (z := (((bl + 1) + 1) + 1)) rfl ?_
  refine q_blk (lv2 := [(0, vr o), (1, vi x), (2, vi 0)]) (st2 := [vr o, vi (((bl + 1) + 1) + 1)]) kX8_putWord_11 rfl ?_
  refine q_gr eX8_putWord_12 fl_RX8_9 (Or.inr ⟨_, rfl⟩) k24 rfl ?_
  refine q_al eX8_putWord_15 k25 (by decide) ?_
  refine AQ.of (AS.ic_ge_f eX8_putWord_16 (by first | assumption | exact ⟨by omega, by omega⟩) ⟨by decide, by decide⟩ (by omega) (by decide)) ?_
  refine q_blk (lv2 := [(0, vr o), (1, vi x), (2, vi 0)]) (st2 := [vr o]) kX8_putWord_19 rfl ?_
  refine q_gr eX8_putWord_20 fl_RX8_9 (Or.inr ⟨_, rfl⟩) k24 rfl ?_
  refine q_blk (lv2 := [(0, vr o), (1, vi x), (2, vi 0)]) (st2 := [vr o, vr u]) kX8_putWord_23 rfl ?_
  refine q_gi eX8_putWord_24 fl_RX8_55 (Or.inl rfl) k24 (z := (((bl + 1) + 1) + 1)) rfl ?_
  refine q_blk (lv2 := [(0, vr o), (1, vi x), (2, vi 0)]) (st2 := [vi 0, vi x, vi (((bl + 1) + 1) + 1), vr u]) kX8_putWord_27 rfl ?_
  refine AQ.of (AS.ishr (a := x) (b := 0) eX8_putWord_29 r_x (by decide) (by decide)) ?_
  rw [show (((2 ^ Int.toNat 0 : Nat)) : Int) = 1 from rfl]
  refine AQ.of (AS.i2b eX8_putWord_30) ?_
  refine q_bs eX8_putWord_31 k25 (by omega) (by omega) (by omega) (by omega) (fun h26 e27 => ?_)
  have k28 := (am_ne e27 o (by omega)).trans k24
  have k29 := am_at e27
  refine q_blk (lv2 := [(0, vr o), (1, vi x), (2, vi 0)]) (st2 := [vr o, vr o]) kX8_putWord_32 rfl ?_
  refine q_gi eX8_putWord_34 fl_RX8_55 (Or.inl rfl) k28 (z := (((bl + 1) + 1) + 1)) rfl ?_
  refine q_blk (lv2 := [(0, vr o), (1, vi x), (2, vi 0)]) (st2 := [vi ((((bl + 1) + 1) + 1) + 1), vr o]) kX8_putWord_37 rfl ?_
  refine q_pi eX8_putWord_39 fl_RX8_55 (fun q hq => by cases hq; exact Or.inl rfl) (Or.inl rfl) k28 (Nat.le_of_ble_eq_true rfl) (l2 := [0, 0, 0, 0, 0, 0, 0, ((((bl + 1) + 1) + 1) + 1), le]) rfl (fun h30 e31 => ?_)
  have k32 := am_at e31
  have k33 := (am_ne e31 u (by omega)).trans k29
  refine q_blk (lv2 := [(0, vr o), (1, vi x), (2, vi (-8))]) (st2 := []) kX8_putWord_42 rfl ?_
  refine q_goto (tgt := 3) eX8_putWord_45 (by decide) ?_
  refine q_blk (lv2 := [(0, vr o), (1, vi x), (2, vi (-8))]) (st2 := [vi (-8)]) kX8_putWord_3 rfl ?_
  refine AQ.of (AS.if_lt_t (tgt := 48) eX8_putWord_4 (by decide) ⟨by decide, by decide⟩ (by decide)) ?_
  exact q_rv rfl eX8_putWord_48 ⟨rfl, CCS.fo hX ((((((((am_fr.st e3 (by omega) (by omega) : am_fr h _ o (o + 2)).tr (am_fr.st e7 (by omega) (by omega))).tr (am_fr.st e11 (by omega) (by omega))).tr (am_fr.st e15 (by omega) (by omega))).tr (am_fr.st e19 (by omega) (by omega))).tr (am_fr.st e23 (by omega) (by omega))).tr (am_fr.st e27 (by omega) (by omega))).tr (am_fr.st e31 (by omega) (by omega))) k32 k33 (gm_pw_r xr_0) ⟨by omega, by omega⟩, ((((((((am_fr.st e3 (by omega) (by omega) : am_fr h _ o (o + 2)).tr (am_fr.st e7 (by omega) (by omega))).tr (am_fr.st e11 (by omega) (by omega))).tr (am_fr.st e15 (by omega) (by omega))).tr (am_fr.st e19 (by omega) (by omega))).tr (am_fr.st e23 (by omega) (by omega))).tr (am_fr.st e27 (by omega) (by omega))).tr (am_fr.st e31 (by omega) (by omega)))⟩

set_option maxHeartbeats 4000000 in
theorem c_X8_append {w : am_w} {h : AH} {o u b a j t s r : Nat} {D cm : Int → Int} {sc : Nat} {L : GL} {tx : Int → Int} {bl le : Int} {Hs : List GE} (hX : CCS h o u b a j t s r D cm sc L tx bl le Hs) {w0 w1 w2 w3 w4 : Int} (r_w0 : am_r w0) (r_w1 : am_r w1) (r_w2 : am_r w2) (r_w3 : am_r w3) (r_w4 : am_r w4)  : AE w m_X8_append 5 [vr o, vi w0, vi w1, vi w2, vi w3, vi w4] h (am_int (fun z h1 => ((800 < bl + 20 ∧ z = -1 ∧ CCS h1 o u b a j t s r D cm sc L tx bl le Hs) ∨ (bl + 20 ≤ 800 ∧ z = bl + 20 ∧ CCS h1 o u b a j t s r D cm sc L (gm_pw (gm_pw (gm_pw (gm_pw (gm_pw tx bl w0) (bl + 4) w1) (bl + 8) w2) (bl + 12) w3) (bl + 16) w4) (bl + 20) le Hs)) ∧ am_go 0 h h1 o)) := by
  refine AE.of wf_X8_append (Nat.le_of_ble_eq_true rfl) (am_ok_i) ?_
  obtain ⟨ou, ob, oa, oj, ot, os, orr, oz⟩ := id hX.1
  obtain ⟨⟨-, -, -, -, -, -, -, oz_0⟩, c0_0, ⟨hXX_0, xr_0⟩, bl0_0, hB_0, ⟨hD_0, hE_0, hM_0, hS_0⟩, hA_0, hJ_0, hLJ_0, hR_0, ⟨fg_0, ll_0, hSC_0⟩, hH_0, hHs_0⟩ := id hX
  obtain ⟨⟨sx_0, sy_0, sv_0, ⟨b0_0, b1_0, b2_0, b3_0, b4_0, b5_0⟩, hst_0⟩, hall_0, hsh_0⟩ := id hB_0
  have d0_0 := hD_0.1
  have d1_0 := hD_0.2.1
  have d2_0 := hD_0.2.2.1
  have d3_0 := hD_0.2.2.2.1
  have hcr_0 : ∀ k8, 0 ≤ k8 → k8 < D 2 → -1 ≤ cm k8 ∧ cm k8 < 6 := fun k8 k0 k1 => (hM_0 k8 k0 k1).2
  have scz_0 := hS_0.2.2
  refine q_blk (lv2 := [(0, vr o), (1, vi w0), (2, vi w1), (3, vi w2), (4, vi w3), (5, vi w4)]) (st2 := [vr o]) kX8_append_0 rfl ?_
  refine q_gi eX8_append_1 fl_RX8_55 (Or.inl rfl) c0_0 (z := bl) rfl ?_
  refine q_blk (lv2 := [(0, vr o), (1, vi w0), (2, vi w1), (3, vi w2), (4, vi w3), (5, vi w4)]) (st2 := [vi 800, vi (bl + 20)]) kX8_append_4 rfl ?_
  refine AQ.ic_le (tgt := 15) eX8_append_10 (by decide) (by first | assumption | exact ⟨by omega, by omega⟩) ⟨by decide, by decide⟩ (fun br2 => ?_) (fun br2 => ?_)
  · skip
    refine q_blk (lv2 := [(0, vr o), (1, vi w0), (2, vi w1), (3, vi w2), (4, vi w3), (5, vi w4)]) (st2 := [vi w0, vr o]) kX8_append_15 rfl ?_
    refine AQ.callVv (av := [vi w0]) (st := []) (c_X8_putWord hX (by omega) r_w0) lk_RX8_62 (by decide) rfl rfl hX.ob ⟨_, rfl, rfl⟩ (Nat.le_of_ble_eq_true rfl) eX8_append_17 (fun h5 e4 => ?_)
    obtain ⟨⟨-, -, -, -, -, -, -, oz_5⟩, c0_5, ⟨hXX_5, xr_5⟩, bl0_5, hB_5, ⟨hD_5, hE_5, hM_5, hS_5⟩, hA_5, hJ_5, hLJ_5, hR_5, ⟨fg_5, ll_5, hSC_5⟩, hH_5, hHs_5⟩ := id e4.1
    obtain ⟨⟨sx_5, sy_5, sv_5, ⟨b0_5, b1_5, b2_5, b3_5, b4_5, b5_5⟩, hst_5⟩, hall_5, hsh_5⟩ := id hB_5
    have d0_5 := hD_5.1
    have d1_5 := hD_5.2.1
    have d2_5 := hD_5.2.2.1
    have d3_5 := hD_5.2.2.2.1
    have hcr_5 : ∀ k8, 0 ≤ k8 → k8 < D 2 → -1 ≤ cm k8 ∧ cm k8 < 6 := fun k8 k0 k1 => (hM_5 k8 k0 k1).2
    have scz_5 := hS_5.2.2
    refine q_blk (lv2 := [(0, vr o), (1, vi w0), (2, vi w1), (3, vi w2), (4, vi w3), (5, vi w4)]) (st2 := [vi w1, vr o]) kX8_append_20 rfl ?_
    refine AQ.callVv (av := [vi w1]) (st := []) (c_X8_putWord e4.1 (by omega) r_w1) lk_RX8_62 (by decide) rfl rfl e4.1.ob ⟨_, rfl, rfl⟩ (Nat.le_of_ble_eq_true rfl) eX8_append_22 (fun h9 e8 => ?_)
    obtain ⟨⟨-, -, -, -, -, -, -, oz_9⟩, c0_9, ⟨hXX_9, xr_9⟩, bl0_9, hB_9, ⟨hD_9, hE_9, hM_9, hS_9⟩, hA_9, hJ_9, hLJ_9, hR_9, ⟨fg_9, ll_9, hSC_9⟩, hH_9, hHs_9⟩ := id e8.1
    obtain ⟨⟨sx_9, sy_9, sv_9, ⟨b0_9, b1_9, b2_9, b3_9, b4_9, b5_9⟩, hst_9⟩, hall_9, hsh_9⟩ := id hB_9
    have d0_9 := hD_9.1
    have d1_9 := hD_9.2.1
    have d2_9 := hD_9.2.2.1
    have d3_9 := hD_9.2.2.2.1
    have hcr_9 : ∀ k8, 0 ≤ k8 → k8 < D 2 → -1 ≤ cm k8 ∧ cm k8 < 6 := fun k8 k0 k1 => (hM_9 k8 k0 k1).2
    have scz_9 := hS_9.2.2
    refine q_blk (lv2 := [(0, vr o), (1, vi w0), (2, vi w1), (3, vi w2), (4, vi w3), (5, vi w4)]) (st2 := [vi w2, vr o]) kX8_append_25 rfl ?_
    refine AQ.callVv (av := [vi w2]) (st := []) (c_X8_putWord e8.1 (by omega) r_w2) lk_RX8_62 (by decide) rfl rfl e8.1.ob ⟨_, rfl, rfl⟩ (Nat.le_of_ble_eq_true rfl) eX8_append_27 (fun h13 e12 => ?_)
    obtain ⟨⟨-, -, -, -, -, -, -, oz_13⟩, c0_13, ⟨hXX_13, xr_13⟩, bl0_13, hB_13, ⟨hD_13, hE_13, hM_13, hS_13⟩, hA_13, hJ_13, hLJ_13, hR_13, ⟨fg_13, ll_13, hSC_13⟩, hH_13, hHs_13⟩ := id e12.1
    obtain ⟨⟨sx_13, sy_13, sv_13, ⟨b0_13, b1_13, b2_13, b3_13, b4_13, b5_13⟩, hst_13⟩, hall_13, hsh_13⟩ := id hB_13
    have d0_13 := hD_13.1
    have d1_13 := hD_13.2.1
    have d2_13 := hD_13.2.2.1
    have d3_13 := hD_13.2.2.2.1
    have hcr_13 : ∀ k8, 0 ≤ k8 → k8 < D 2 → -1 ≤ cm k8 ∧ cm k8 < 6 := fun k8 k0 k1 => (hM_13 k8 k0 k1).2
    have scz_13 := hS_13.2.2
    refine q_blk (lv2 := [(0, vr o), (1, vi w0), (2, vi w1), (3, vi w2), (4, vi w3), (5, vi w4)]) (st2 := [vi w3, vr o]) kX8_append_30 rfl ?_
    refine AQ.callVv (av := [vi w3]) (st := []) (c_X8_putWord e12.1 (by omega) r_w3) lk_RX8_62 (by decide) rfl rfl e12.1.ob ⟨_, rfl, rfl⟩ (Nat.le_of_ble_eq_true rfl) eX8_append_33 (fun h17 e16 => ?_)
    obtain ⟨⟨-, -, -, -, -, -, -, oz_17⟩, c0_17, ⟨hXX_17, xr_17⟩, bl0_17, hB_17, ⟨hD_17, hE_17, hM_17, hS_17⟩, hA_17, hJ_17, hLJ_17, hR_17, ⟨fg_17, ll_17, hSC_17⟩, hH_17, hHs_17⟩ := id e16.1
    obtain ⟨⟨sx_17, sy_17, sv_17, ⟨b0_17, b1_17, b2_17, b3_17, b4_17, b5_17⟩, hst_17⟩, hall_17, hsh_17⟩ := id hB_17
    have d0_17 := hD_17.1
    have d1_17 := hD_17.2.1
    have d2_17 := hD_17.2.2.1
    have d3_17 := hD_17.2.2.2.1
    have hcr_17 : ∀ k8, 0 ≤ k8 → k8 < D 2 → -1 ≤ cm k8 ∧ cm k8 < 6 := fun k8 k0 k1 => (hM_17 k8 k0 k1).2
    have scz_17 := hS_17.2.2
    refine q_blk (lv2 := [(0, vr o), (1, vi w0), (2, vi w1), (3, vi w2), (4, vi w3), (5, vi w4)]) (st2 := [vi w4, vr o]) kX8_append_36 rfl ?_
    refine AQ.callVv (av := [vi w4]) (st := []) (c_X8_putWord e16.1 (by omega) r_w4) lk_RX8_62 (by decide) rfl rfl e16.1.ob ⟨_, rfl, rfl⟩ (Nat.le_of_ble_eq_true rfl) eX8_append_39 (fun h21 e20 => ?_)
    obtain ⟨⟨-, -, -, -, -, -, -, oz_21⟩, c0_21, ⟨hXX_21, xr_21⟩, bl0_21, hB_21, ⟨hD_21, hE_21, hM_21, hS_21⟩, hA_21, hJ_21, hLJ_21, hR_21, ⟨fg_21, ll_21, hSC_21⟩, hH_21, hHs_21⟩ := id e20.1
    obtain ⟨⟨sx_21, sy_21, sv_21, ⟨b0_21, b1_21, b2_21, b3_21, b4_21, b5_21⟩, hst_21⟩, hall_21, hsh_21⟩ := id hB_21
    have d0_21 := hD_21.1
    have d1_21 := hD_21.2.1
    have d2_21 := hD_21.2.2.1
    have d3_21 := hD_21.2.2.2.1
    have hcr_21 : ∀ k8, 0 ≤ k8 → k8 < D 2 → -1 ≤ cm k8 ∧ cm k8 < 6 := fun k8 k0 k1 => (hM_21 k8 k0 k1).2
    have scz_21 := hS_21.2.2
    refine q_blk (lv2 := [(0, vr o), (1, vi w0), (2, vi w1), (3, vi w2), (4, vi w3), (5, vi w4)]) (st2 := [vr o]) kX8_append_42 rfl ?_
    refine q_gi eX8_append_43 fl_RX8_55 (Or.inl rfl) c0_21 (z := (((((bl + 1 + 1 + 1 + 1) + 1 + 1 + 1 + 1) + 1 + 1 + 1 + 1) + 1 + 1 + 1 + 1) + 1 + 1 + 1 + 1)) rfl ?_
    exact q_ri rfl eX8_append_46 ⟨(((((bl + 1 + 1 + 1 + 1) + 1 + 1 + 1 + 1) + 1 + 1 + 1 + 1) + 1 + 1 + 1 + 1) + 1 + 1 + 1 + 1), rfl, Or.inr ⟨by omega, by omega, by have X9 := e20.1; simp only [Int.add_assoc] at X9; exact X9⟩, ((((((am_go.rf.fr e4.2 (by omega) (by omega)).fr e8.2 (by omega) (by omega)).fr e12.2 (by omega) (by omega)).fr e16.2 (by omega) (by omega)).fr e20.2 (by omega) (by omega)) : am_go 0 h h21 o)⟩
  · skip
    refine q_blk (lv2 := [(0, vr o), (1, vi w0), (2, vi w1), (3, vi w2), (4, vi w3), (5, vi w4)]) (st2 := [vi (-1)]) kX8_append_13 rfl ?_
    exact q_ri rfl eX8_append_14 ⟨(-1), rfl, Or.inl ⟨by omega, rfl, hX⟩, am_go.rf⟩

set_option maxHeartbeats 4000000 in
theorem c_X8_load {w : am_w} {h : AH} {o u b a j t s r : Nat} {D cm : Int → Int} {sc : Nat} {L : GL} {tx : Int → Int} {bl le : Int} {Hs : List GE} (hX : CCS h o u b a j t s r D cm sc L tx bl le Hs) (hP : PLN w h o) {len : Int} (r_len : am_r len)  : AE w m_X8_load 21 [vr o, vi len] h (am_ay h (fun r => ¬ (0 ≤ len ∧ len ≤ bl) ∧ r = .inr 0) (fun z h1 => (0 ≤ len ∧ len ≤ bl) ∧ ∃ kd st vl, TKA kd st vl (gm_to tx len 801 0) ∧ ((∃ e at', rD kd st vl = .inl (e, at') ∧ z = e ∧ CCS h1 o u b a j t s r D cm sc L tx 0 at' Hs) ∨ (∃ D' L' cm' sc', rD kd st vl = .inr (D', L') ∧ z = D' 3 ∧ (sc' < o ∨ h.2.1 ≤ sc') ∧ CCS h1 o u b a j t s r D' cm' sc' (gm_cod L') tx 0 (-1) ((D, cm, sc, L) :: Hs.take 7))) ∧ am_go 2 h h1 o)) := by
  refine AE.of wf_X8_load (Nat.le_of_ble_eq_true rfl) (am_ok_ay) ?_
  obtain ⟨ou, ob, oa, oj, ot, os, orr, oz⟩ := id hX.1
  obtain ⟨⟨-, -, -, -, -, -, -, oz_0⟩, c0_0, ⟨hXX_0, xr_0⟩, bl0_0, hB_0, ⟨hD_0, hE_0, hM_0, hS_0⟩, hA_0, hJ_0, hLJ_0, hR_0, ⟨fg_0, ll_0, hSC_0⟩, hH_0, hHs_0⟩ := id hX
  obtain ⟨⟨sx_0, sy_0, sv_0, ⟨b0_0, b1_0, b2_0, b3_0, b4_0, b5_0⟩, hst_0⟩, hall_0, hsh_0⟩ := id hB_0
  have d0_0 := hD_0.1
  have d1_0 := hD_0.2.1
  have d2_0 := hD_0.2.2.1
  have d3_0 := hD_0.2.2.2.1
  have hcr_0 : ∀ k8, 0 ≤ k8 → k8 < D 2 → -1 ≤ cm k8 ∧ cm k8 < 6 := fun k8 k0 k1 => (hM_0 k8 k0 k1).2
  have scz_0 := hS_0.2.2
  refine q_blk (lv2 := [(0, vr o), (1, vi len)]) (st2 := [vi len]) kX8_load_0 rfl ?_
  refine AQ.if_lt (tgt := 12) eX8_load_1 (by decide) (by first | assumption | exact ⟨by omega, by omega⟩) (fun br2 => ?_) (fun br2 => ?_)
  · skip
    exact AQ.throwS (i := 0) (k := 0) (by decide) rfl xk_0 xi_0 (by decide +kernel) xw_0 (by decide) (Nat.le_of_ble_eq_true rfl) eX8_load_12 (by decide +kernel) eX8_load_16 eX8_load_18 eX8_load_21 (by decide) (Or.inr ⟨0, rfl, ⟨by omega, rfl⟩, rfl⟩)
  · skip
    refine q_blk (lv2 := [(0, vr o), (1, vi len)]) (st2 := [vr o, vi len]) kX8_load_4 rfl ?_
    refine q_gi eX8_load_6 fl_RX8_55 (Or.inl rfl) c0_0 (z := bl) rfl ?_
    refine AQ.ic_le (tgt := 22) eX8_load_9 (by decide) (by first | assumption | exact ⟨by omega, by omega⟩) (by first | assumption | exact ⟨by omega, by omega⟩) (fun br3 => ?_) (fun br3 => ?_)
    · skip
      refine q_blk (lv2 := [(0, vr o), (1, vi len)]) (st2 := [vi 0, vr o]) kX8_load_22 rfl ?_
      refine q_pi eX8_load_24 fl_RX8_55 (fun q hq => by cases hq; exact Or.inl rfl) (Or.inl rfl) c0_0 (Nat.le_of_ble_eq_true rfl) (l2 := [0, 0, 0, 0, 0, 0, 0, 0, le]) rfl (fun h4 e5 => ?_)
      have k6 := (am_ne e5 b (by omega)).trans b0_0
      have k7 := (am_ne e5 (b + 1) (by omega)).trans b1_0
      have k8 := (am_ne e5 (b + 2) (by omega)).trans b2_0
      have k9 := (am_ne e5 (b + 3) (by omega)).trans b3_0
      have k10 := (am_ne e5 (b + 4) (by omega)).trans b4_0
      have k11 := (am_ne e5 (b + 5) (by omega)).trans b5_0
      have k12 := am_at e5
      have F27 : am_fr h h4 o (o + 2) := am_fr.st e5 (by omega) (by omega)
      have X27 := CCS.fo hX F27 k12 (GTX.kept hXX_0 (am_fr.st e5 (lo := o) (hi := o + 1) (by omega) (by omega)) (by omega)) xr_0 ⟨by decide, by decide⟩
      have P27 := hP.go (((am_go.rf.fr F27 (by omega) (by omega)) : am_go 0 h h4 o)) (by omega)
      obtain ⟨⟨-, -, -, -, -, -, -, oz_12⟩, c0_12, ⟨hXX_12, xr_12⟩, bl0_12, hB_12, ⟨hD_12, hE_12, hM_12, hS_12⟩, hA_12, hJ_12, hLJ_12, hR_12, ⟨fg_12, ll_12, hSC_12⟩, hH_12, hHs_12⟩ := id X27
      obtain ⟨⟨sx_12, sy_12, sv_12, ⟨b0_12, b1_12, b2_12, b3_12, b4_12, b5_12⟩, hst_12⟩, hall_12, hsh_12⟩ := id hB_12
      have d0_12 := hD_12.1
      have d1_12 := hD_12.2.1
      have d2_12 := hD_12.2.2.1
      have d3_12 := hD_12.2.2.2.1
      have hcr_12 : ∀ k8, 0 ≤ k8 → k8 < D 2 → -1 ≤ cm k8 ∧ cm k8 < 6 := fun k8 k0 k1 => (hM_12 k8 k0 k1).2
      have scz_12 := hS_12.2.2
      obtain ⟨kd0, st0, vl0, tc0, he0, nu0, px0, cl0, hs0, er0, ea0, cd0, ST0, TK0, cl00, cl01⟩ := id hR_12
      refine q_blk (lv2 := [(0, vr o), (1, vi len)]) (st2 := [vr o]) kX8_load_27 rfl ?_
      refine q_gr eX8_load_28 fl_RX8_37 (Or.inl ⟨_, rfl⟩) c0_12 rfl ?_
      refine q_blk (lv2 := [(0, vr o), (1, vi len)]) (st2 := [vi len, vr t]) kX8_load_31 rfl ?_
      refine AQ.callVi (av := [vi len]) (st := []) (c_X6_read ST0 hXX_12 xr_12 (by omega) TK0 (len := len) (by omega) (by omega) cl00 cl01 hA_12 (by omega) (by omega) (by omega)) lk_RX8_73 (by decide) rfl rfl ST0.ob ⟨_, rfl, rfl⟩ (Nat.le_of_ble_eq_true rfl) eX8_load_32 (fun z14 h16 e15 => ?_)
      obtain ⟨kd9, st9, vl9, TK9, ln9, RE9⟩ := e15
      obtain ⟨er9, ea9, he9, nu9, px9, cl9, hs9, cd9, SU9, cl9', G9, BA9, hz9⟩ := RE9.out
      rw [show a = a from rfl] at SU9
      have X32 := CCS.rd X27 SU9 cl9' TK9 G9 BA9
      have G32 : am_go 2 h _ o := ((am_go.rf : am_go 0 h h o).fr F27 (by omega) (by omega)).tr (am_go.gn G9 (by omega) (by omega) (by omega) (by omega))
      have G33 := am_go.gn G9 (o := o) (by omega) (by omega) (by omega) (by omega)
      have P32 := P27.go G33 (by omega)
      obtain ⟨⟨-, -, -, -, -, -, -, oz_16⟩, c0_16, ⟨hXX_16, xr_16⟩, bl0_16, hB_16, ⟨hD_16, hE_16, hM_16, hS_16⟩, hA_16, hJ_16, hLJ_16, hR_16, ⟨fg_16, ll_16, hSC_16⟩, hH_16, hHs_16⟩ := id X32
      obtain ⟨⟨sx_16, sy_16, sv_16, ⟨b0_16, b1_16, b2_16, b3_16, b4_16, b5_16⟩, hst_16⟩, hall_16, hsh_16⟩ := id hB_16
      have d0_16 := hD_16.1
      have d1_16 := hD_16.2.1
      have d2_16 := hD_16.2.2.1
      have d3_16 := hD_16.2.2.2.1
      have hcr_16 : ∀ k8, 0 ≤ k8 → k8 < D 2 → -1 ≤ cm k8 ∧ cm k8 < 6 := fun k8 k0 k1 => (hM_16 k8 k0 k1).2
      have scz_16 := hS_16.2.2
      obtain ⟨tc9, t0, -⟩ := id SU9
      refine q_blk (lv2 := [(0, vr o), (1, vi len), (2, vi z14)]) (st2 := [vr o, vr o]) kX8_load_35 rfl ?_
      refine q_gr eX8_load_38 fl_RX8_37 (Or.inl ⟨_, rfl⟩) c0_16 rfl ?_
      refine q_gi eX8_load_41 fl_RX8_77 (Or.inl rfl) t0 (z := ea9) rfl ?_
      refine q_pi eX8_load_44 fl_RX8_59 (fun q hq => by cases hq; exact Or.inl rfl) (Or.inl rfl) c0_16 (Nat.le_of_ble_eq_true rfl) (l2 := [0, 0, 0, 0, 0, 0, 0, 0, ea9]) rfl (fun h18 e19 => ?_)
      have k20 := (am_ne e19 b (by omega)).trans b0_16
      have k21 := (am_ne e19 (b + 1) (by omega)).trans b1_16
      have k22 := (am_ne e19 (b + 2) (by omega)).trans b2_16
      have k23 := (am_ne e19 (b + 3) (by omega)).trans b3_16
      have k24 := (am_ne e19 (b + 4) (by omega)).trans b4_16
      have k25 := (am_ne e19 (b + 5) (by omega)).trans b5_16
      have k26 := am_at e19
      have k27 := (am_ne e19 t (by omega)).trans t0
      have F47 : am_fr _ h18 o (o + 2) := am_fr.st e19 (by omega) (by omega)
      have X47 := CCS.fo X32 F47 k26 (GTX.kept hXX_16 (am_fr.st e19 (lo := o) (hi := o + 1) (by omega) (by omega)) (by omega)) xr_16 ⟨by decide, by decide⟩
      have P47 := P32.go ((am_go.rf : am_go 0 _ _ o).fr F47 (by omega) (by omega)) (by omega)
      obtain ⟨⟨-, -, -, -, -, -, -, oz_27⟩, c0_27, ⟨hXX_27, xr_27⟩, bl0_27, hB_27, ⟨hD_27, hE_27, hM_27, hS_27⟩, hA_27, hJ_27, hLJ_27, hR_27, ⟨fg_27, ll_27, hSC_27⟩, hH_27, hHs_27⟩ := id X47
      obtain ⟨⟨sx_27, sy_27, sv_27, ⟨b0_27, b1_27, b2_27, b3_27, b4_27, b5_27⟩, hst_27⟩, hall_27, hsh_27⟩ := id hB_27
      have d0_27 := hD_27.1
      have d1_27 := hD_27.2.1
      have d2_27 := hD_27.2.2.1
      have d3_27 := hD_27.2.2.2.1
      have hcr_27 : ∀ k8, 0 ≤ k8 → k8 < D 2 → -1 ≤ cm k8 ∧ cm k8 < 6 := fun k8 k0 k1 => (hM_27 k8 k0 k1).2
      have scz_27 := hS_27.2.2
      refine q_blk (lv2 := [(0, vr o), (1, vi len), (2, vi z14)]) (st2 := [vi z14]) kX8_load_47 rfl ?_
      refine AQ.if_ne (tgt := 59) eX8_load_48 (by decide) (by first | assumption | exact ⟨by omega, by omega⟩) (fun br29 => ?_) (fun br29 => ?_)
      · skip
        obtain ⟨hz1, ea1, D9, L9, sc9, cm8, res9, V9, E9, B9, SC9⟩ := hz9.resolve_right (fun q => by have := q.1; omega)
        subst ea1
        have B47 := B9.kept F47 (by omega) V9.2.2.2.1.2
        refine q_blk (lv2 := [(0, vr o), (1, vi len), (2, vi z14)]) (st2 := [vr o]) kX8_load_59 rfl ?_
        refine q_gr eX8_load_60 fl_RX8_51 (Or.inl ⟨_, rfl⟩) c0_27 rfl ?_
        refine q_blk (lv2 := [(0, vr o), (1, vi len), (2, vi z14)]) (st2 := [vr o, vr r]) kX8_load_63 rfl ?_
        refine q_gr eX8_load_64 fl_RX8_16 (Or.inl ⟨_, rfl⟩) c0_27 rfl ?_
        refine AQ.callVv (av := [vr b]) (st := []) (c_X2_save hH_27 ⟨cm, hB_27, fun _ _ _ => rfl⟩ hD_27 (by omega)) lk_RX8_83 (by decide) rfl rfl hH_27.ob ⟨_, rfl, rfl⟩ (Nat.le_of_ble_eq_true rfl) eX8_load_67 (fun h32 e31 => ?_)
        have B59 := B47.kept e31.2 (by omega) V9.2.2.2.1.2
        have FS9 := e31.2
        have Xh32 := CCS.save X47 e31.2 e31.1
        obtain ⟨⟨-, -, -, -, -, -, -, oz_32⟩, c0_32, ⟨hXX_32, xr_32⟩, bl0_32, hB_32, ⟨hD_32, hE_32, hM_32, hS_32⟩, hA_32, hJ_32, hLJ_32, hR_32, ⟨fg_32, ll_32, hSC_32⟩, hH_32, hHs_32⟩ := id Xh32
        obtain ⟨⟨sx_32, sy_32, sv_32, ⟨b0_32, b1_32, b2_32, b3_32, b4_32, b5_32⟩, hst_32⟩, hall_32, hsh_32⟩ := id hB_32
        have d0_32 := hD_32.1
        have d1_32 := hD_32.2.1
        have d2_32 := hD_32.2.2.1
        have d3_32 := hD_32.2.2.2.1
        have hcr_32 : ∀ k8, 0 ≤ k8 → k8 < D 2 → -1 ≤ cm k8 ∧ cm k8 < 6 := fun k8 k0 k1 => (hM_32 k8 k0 k1).2
        have scz_32 := hS_32.2.2
        refine q_blk (lv2 := [(0, vr o), (1, vi len), (2, vi z14)]) (st2 := [vr o]) kX8_load_70 rfl ?_
        refine q_gr eX8_load_71 fl_RX8_16 (Or.inl ⟨_, rfl⟩) c0_32 rfl ?_
        refine q_blk (lv2 := [(0, vr o), (1, vi len), (2, vi z14)]) (st2 := [vr o, vr b]) kX8_load_74 rfl ?_
        refine q_gr eX8_load_75 fl_RX8_20 (Or.inl ⟨_, rfl⟩) c0_32 rfl ?_
        refine AQ.callVv (av := [vr a]) (st := []) (c_X0_copyFrom B59 V9 (BD.ba hB_32) (by omega)) lk_RX8_86 (by decide) rfl rfl hB_32.ob ⟨_, rfl, rfl⟩ (Nat.le_of_ble_eq_true rfl) eX8_load_78 (fun h36 e35 => ?_)
        obtain ⟨⟨cm7, Bh36, ch36⟩, Fh36⟩ := e35
        have k37 := (Fh36.2 o (by omega)).trans c0_32
        refine q_blk (lv2 := [(0, vr o), (1, vi len), (2, vi z14)]) (st2 := [vr o]) kX8_load_81 rfl ?_
        refine q_gr eX8_load_82 fl_RX8_16 (Or.inl ⟨_, rfl⟩) k37 rfl ?_
        refine AQ.callVv (av := []) (st := []) (c_X0_settleClaims Bh36 V9) lk_RX8_89 (by decide) rfl rfl Bh36.ob ⟨_, rfl, rfl⟩ (Nat.le_of_ble_eq_true rfl) eX8_load_85 (fun h40 e39 => ?_)
        obtain ⟨cm9, Bh40, Fh40, Mh40⟩ := e39
        have P82 := (P47.go ((am_go.rf : am_go 0 _ _ o).fr FS9 (by omega) (by omega)) (by omega)).go ((am_go.rf : am_go 0 _ _ o).fr (Fh36.tr Fh40) (by omega) (by omega)) (by omega)
        have W82 : SCW h40 o sc9 (gm_cod L9) := SC9.sw P82 (by omega) (by rw [(Fh36.tr Fh40).1, FS9.1, F47.1]; exact Nat.le_refl _) (fun q q0 q1 => ((Fh36.tr Fh40).2 q (by omega)).trans ((FS9.2 q (by omega)).trans (F47.2 q (by omega))))
        have Xh40 := CCS.fb Xh32 (Fh36.tr Fh40) Bh40 ⟨V9, E9, Mh40, W82⟩
        obtain ⟨⟨-, -, -, -, -, -, -, oz_40⟩, c0_40, ⟨hXX_40, xr_40⟩, bl0_40, hB_40, ⟨hD_40, hE_40, hM_40, hS_40⟩, hA_40, hJ_40, hLJ_40, hR_40, ⟨fg_40, ll_40, hSC_40⟩, hH_40, hHs_40⟩ := id Xh40
        obtain ⟨⟨sx_40, sy_40, sv_40, ⟨b0_40, b1_40, b2_40, b3_40, b4_40, b5_40⟩, hst_40⟩, hall_40, hsh_40⟩ := id hB_40
        have d0_40 := hD_40.1
        have d1_40 := hD_40.2.1
        have d2_40 := hD_40.2.2.1
        have d3_40 := hD_40.2.2.2.1
        have hcr_40 : ∀ k8, 0 ≤ k8 → k8 < D9 2 → -1 ≤ cm9 k8 ∧ cm9 k8 < 6 := fun k8 k0 k1 => (hM_40 k8 k0 k1).2
        have scz_40 := hS_40.2.2
        refine q_blk (lv2 := [(0, vr o), (1, vi len), (2, vi z14)]) (st2 := [vr o]) kX8_load_88 rfl ?_
        refine q_gr eX8_load_89 fl_RX8_16 (Or.inl ⟨_, rfl⟩) c0_40 rfl ?_
        refine q_gi eX8_load_92 fl_RX8_92 (Or.inl rfl) b0_40 (z := (D9 3)) rfl ?_
        exact q_ri rfl eX8_load_95 (Or.inl ⟨(D9 3), rfl, ⟨by omega, by omega⟩, kd9, st9, vl9, TK9, Or.inr ⟨D9, L9, cm9, sc9, res9, rfl, (by
          cases L9 with
          | none => exact Or.inl (by rw [show sc9 = w.2 100 from SC9]; exact hP.2)
          | some l => exact Or.inr (by have q := SC9.1; rw [F27.1] at q; exact q)), Xh40⟩, (((G32.fr F47 (by omega) (by omega)).fr e31.2 (by omega) (by omega)).fr (Fh36.tr Fh40) (by omega) (by omega))⟩)
      · skip
        refine q_blk (lv2 := [(0, vr o), (1, vi len), (2, vi z14)]) (st2 := [vr o]) kX8_load_51 rfl ?_
        refine q_gr eX8_load_52 fl_RX8_37 (Or.inl ⟨_, rfl⟩) c0_27 rfl ?_
        refine q_gi eX8_load_55 fl_RX8_80 (Or.inl rfl) k27 (z := er9) rfl ?_
        exact q_ri rfl eX8_load_58 (Or.inl ⟨er9, rfl, ⟨by omega, by omega⟩, kd9, st9, vl9, TK9, Or.inl ⟨er9, ea9, (hz9.resolve_left (fun q => by have := q.1; omega)).2, rfl, X47⟩, (G32.fr F47 (by omega) (by omega))⟩)
    · skip
      exact AQ.throwS (i := 0) (k := 0) (by decide) rfl xk_0 xi_0 (by decide +kernel) xw_0 (by decide) (Nat.le_of_ble_eq_true rfl) eX8_load_12 (by decide +kernel) eX8_load_16 eX8_load_18 eX8_load_21 (by decide) (Or.inr ⟨0, rfl, ⟨by omega, rfl⟩, rfl⟩)
