/-! CornerClaims: the whole object; what tells of it. -/
abbrev GE : Type := (Int → Int) × (Int → Int) × Nat × GL
/-- the claims are those that the closed polygons ask -/
def CMS (D cm : Int → Int) : Prop := ∀ k, 0 ≤ k → k < D 2 → gm_sma D (sX D k) (sY D k) (D 3).toNat (cm k) ∧ -1 ≤ cm k ∧ cm k < 6
/-- a score's code lies there -/
def SCW (h : AH) (o sc : Nat) (L : GL) : Prop := CD h sc L ∧ gm_wf L 0 ∧ (sc < o ∨ (o + 256 ≤ sc ∧ sc < h.2.1))
def OKE (h : AH) (o : Nat) (D cm : Int → Int) (sc : Nat) (L : GL) : Prop := VD D ∧ VE D ∧ CMS D cm ∧ SCW h o sc L
/-- the reader, between readings -/
def RDR (h : AH) (t u a : Nat) : Prop := ∃ kd st vl tc he nu px cl hs er ea cd, ST h t u a (t + 1) kd st vl tc he nu px cl hs er ea cd ∧ TKA kd st vl [] ∧ 0 ≤ cl ∧ cl ≤ 800
def gm_e3 (e : GE) : (Int → Int) × (Int → Int) × Nat := (e.1, e.2.1, e.2.2.1)
def CCS (h : AH) (o u b a j t s r : Nat) (D cm : Int → Int) (sc : Nat) (L : GL) (tx : Int → Int) (bl le : Int) (Hs : List GE) : Prop :=
  (u = o + 1 ∧ b = o + 2 ∧ a = o + 26 ∧ j = o + 50 ∧ t = o + 52 ∧ s = o + 59 ∧ r = o + 62 ∧ o + 256 ≤ h.2.1) ∧
  h.1 o = some (7, 9, am_L [0, 0, 0, 0, 0, 0, 0, bl, le], am_G [some u, some b, some a, some j, some t, some s, some r, none, none]) ∧
  (GTX h u tx ∧ ∀ i, -128 ≤ tx i ∧ tx i ≤ 127) ∧ (0 ≤ bl ∧ bl ≤ 800) ∧ BD h b D cm sc ∧ OKE h o D cm sc L ∧ BA h a ∧ JD h j b (o + 51) ∧ LJ h (o + 51) ∧ RDR h t u a ∧ (∃ fg l, SCD h s b fg l) ∧ HL h r (Hs.map gm_e3) ∧ ∀ e ∈ Hs, OKE h o e.1 e.2.1 e.2.2.1 e.2.2.2
/-- after a throw: a cell more -/
def gm_thr (h : AH) : AH := (h.1, h.2.1 + 1, h.2.2 + 6)
/-- so many cells made; of the old ones only the object's own touched -/
def am_go (n : Nat) (h h1 : AH) (o : Nat) : Prop := (h.2.1 ≤ h1.2.1 ∧ h1.2.1 ≤ h.2.1 + n ∧ h.2.2 ≤ h1.2.2 ∧ h1.2.2 ≤ h.2.2 + 800 * n) ∧ ∀ q, q < h.2.1 → ¬ (o ≤ q ∧ q < o + 256) → h1.1 q = h.1 q
theorem am_go.rf {n : Nat} {h : AH} {o : Nat} : am_go n h h o := ⟨⟨Nat.le_refl _, Nat.le_add_right _ _, Nat.le_refl _, Nat.le_add_right _ _⟩, fun _ _ _ => rfl⟩
theorem am_go.fr {n : Nat} {h h1 h2 : AH} {o lo hi : Nat} (g : am_go n h h1 o) (f : am_fr h1 h2 lo hi) (l : o ≤ lo) (u : hi ≤ o + 256) : am_go n h h2 o := ⟨by rw [f.1]; exact g.1, fun q q0 q1 => (f.2 q (fun z => q1 ⟨Nat.le_trans l z.1, Nat.lt_of_lt_of_le z.2 u⟩)).trans (g.2 q q0 q1)⟩
theorem am_go.mo {n m : Nat} {h h1 : AH} {o : Nat} (g : am_go n h h1 o) (k : n ≤ m) : am_go m h h1 o := ⟨⟨g.1.1, Nat.le_trans g.1.2.1 (Nat.add_le_add_left k _), g.1.2.2.1, Nat.le_trans g.1.2.2.2 (Nat.add_le_add_left (Nat.mul_le_mul_left 800 k) _)⟩, g.2⟩
theorem am_go.gn {n : Nat} {h h1 : AH} {o t b : Nat} (g : am_gn n h h1 t b) (t0 : o ≤ t) (t1 : t + 7 ≤ o + 256) (b0 : o ≤ b) (b1 : b + 24 ≤ o + 256) : am_go n h h1 o := ⟨g.1, fun q q0 q1 => g.2 q q0 (fun z => q1 ⟨by omega, by omega⟩) (fun z => q1 ⟨by omega, by omega⟩)⟩
theorem am_go.tr {n m : Nat} {h h1 h2 : AH} {o : Nat} (g : am_go n h h1 o) (f : am_go m h1 h2 o) : am_go (n + m) h h2 o := ⟨⟨Nat.le_trans g.1.1 f.1.1, by have := g.1.2.1; have := f.1.2.1; omega, Nat.le_trans g.1.2.2.1 f.1.2.2.1, Nat.le_trans f.1.2.2.2 (by rw [Nat.mul_add, ← Nat.add_assoc]; exact Nat.add_le_add_right g.1.2.2.2 _)⟩, fun q q0 q1 => (f.2 q (Nat.lt_of_lt_of_le q0 g.1.1) q1).trans (g.2 q q0 q1)⟩
theorem gm_thr_go {h : AH} {o : Nat} : am_go 1 h (gm_thr h) o := ⟨⟨Nat.le_succ _, Nat.le_refl _, Nat.le_add_right _ _, Nat.add_le_add_left (by decide) _⟩, fun _ _ _ => rfl⟩
theorem SCW.go {h h1 : AH} {o sc n : Nat} {L : GL} (k : SCW h o sc L) (g : am_go n h h1 o) (oz : o ≤ h.2.1) : SCW h1 o sc L := by
  obtain ⟨⟨ci, f, g9, c0, c1, c2⟩, k2, k3⟩ := k
  have g1 := g.1.1
  exact ⟨⟨ci, f, g9, c0, (g.2 sc (by omega) (by omega)).trans c1, c2⟩, k2, by omega⟩
theorem OKE.go {h h1 : AH} {o n sc : Nat} {D cm : Int → Int} {L : GL} (k : OKE h o D cm sc L) (g : am_go n h h1 o) (oz : o ≤ h.2.1) : OKE h1 o D cm sc L := ⟨k.1, k.2.1, k.2.2.1, k.2.2.2.go g oz⟩
theorem RDR.kept {h h1 : AH} {t u a lo hi : Nat} (k : RDR h t u a) (f : am_fr h h1 lo hi) (hd : t + 7 ≤ lo ∨ hi ≤ t) : RDR h1 t u a := by
  obtain ⟨kd, st, vl, tc, he, nu, px, cl, hs, er, ea, cd, ⟨c0, c1, c2, c3, c4, cj, c5, cL⟩, k2⟩ := k
  exact ⟨kd, st, vl, tc, he, nu, px, cl, hs, er, ea, cd, ⟨(f.2 _ (by omega)).trans c0, (f.2 _ (by omega)).trans c1, (f.2 _ (by omega)).trans c2, (f.2 _ (by omega)).trans c3, (f.2 _ (by omega)).trans c4, cj, (f.2 _ (by omega)).trans c5, cL.kept f (by omega)⟩, k2⟩
theorem SCD.kept9 {h h1 : AH} {s b : Nat} {lo hi : Nat} (k : ∃ fg l, SCD h s b fg l) (f : am_fr h h1 lo hi) (hd : s + 3 ≤ lo ∨ hi ≤ s) : ∃ fg l, SCD h1 s b fg l := by
  obtain ⟨fg, l, f9, c0, c1, c2, c3⟩ := k
  exact ⟨fg, l, f9, (f.2 _ (by omega)).trans c0, (f.2 _ (by omega)).trans c1, (f.2 _ (by omega)).trans c2, c3⟩
section CCSS
variable {h h1 : AH} {o u b a j t s r : Nat} {D cm : Int → Int} {sc : Nat} {L : GL} {tx : Int → Int} {bl le : Int} {Hs : List GE}
theorem CCS.thr (k : CCS h o u b a j t s r D cm sc L tx bl le Hs) : CCS (gm_thr h) o u b a j t s r D cm sc L tx bl le Hs := by
  obtain ⟨⟨k1, k2, k3, k4, k5, k6, k7, k8⟩, c0, c1, c2, c3, c4, c5, c6, c7, c8, c9, c10, c11⟩ := k
  exact ⟨⟨k1, k2, k3, k4, k5, k6, k7, Nat.le_succ_of_le k8⟩, c0, c1, c2, c3, c4.go gm_thr_go (by omega), c5, c6, c7, c8, c9, c10, fun e he => (c11 e he).go gm_thr_go (by omega)⟩
/-- the board has changed -/
theorem CCS.fb {D' cm' : Int → Int} {sc' : Nat} {L' : GL} (k : CCS h o u b a j t s r D cm sc L tx bl le Hs) (f : am_fr h h1 b (b + 24)) (hB : BD h1 b D' cm' sc') (hO : OKE h1 o D' cm' sc' L') : CCS h1 o u b a j t s r D' cm' sc' L' tx bl le Hs := by
  obtain ⟨⟨k1, k2, k3, k4, k5, k6, k7, k8⟩, c0, ⟨c1, x1⟩, c2, c3, c4, c5, c6, c7, c8, c9, c10, c11⟩ := k
  have g : am_go 0 h h1 o := am_go.rf.fr f (by omega) (by omega)
  exact ⟨⟨k1, k2, k3, k4, k5, k6, k7, by rw [f.1]; exact k8⟩, (f.2 _ (by omega)).trans c0, ⟨c1.kept f (by omega), x1⟩, c2, hB, hO, c5.kept f (by omega), (f.2 _ (by omega)).trans c6, c7.kept f (by omega), c8.kept f (by omega), SCD.kept9 c9 f (by omega), c10.kept f (by omega), fun e he => (c11 e he).go g (by omega)⟩
/-- the judge's line has changed -/
theorem CCS.fl (k : CCS h o u b a j t s r D cm sc L tx bl le Hs) (f : am_fr h h1 (o + 51) (o + 51 + 1)) (hL : LJ h1 (o + 51)) : CCS h1 o u b a j t s r D cm sc L tx bl le Hs := by
  obtain ⟨⟨k1, k2, k3, k4, k5, k6, k7, k8⟩, c0, ⟨c1, x1⟩, c2, c3, c4, c5, c6, c7, c8, c9, c10, c11⟩ := k
  have g : am_go 0 h h1 o := am_go.rf.fr f (by omega) (by omega)
  exact ⟨⟨k1, k2, k3, k4, k5, k6, k7, by rw [f.1]; exact k8⟩, (f.2 _ (by omega)).trans c0, ⟨c1.kept f (by omega), x1⟩, c2, c3.kept f (by omega) c4.1.2.2.2.1.2, c4.go g (by omega), c5.kept f (by omega), (f.2 _ (by omega)).trans c6, hL, c8.kept f (by omega), SCD.kept9 c9 f (by omega), c10.kept f (by omega), fun e he => (c11 e he).go g (by omega)⟩
/-- the scorer has changed -/
theorem CCS.fs (k : CCS h o u b a j t s r D cm sc L tx bl le Hs) (f : am_fr h h1 s (s + 3)) (hS : ∃ fg l, SCD h1 s b fg l) : CCS h1 o u b a j t s r D cm sc L tx bl le Hs := by
  obtain ⟨⟨k1, k2, k3, k4, k5, k6, k7, k8⟩, c0, ⟨c1, x1⟩, c2, c3, c4, c5, c6, c7, c8, c9, c10, c11⟩ := k
  have g : am_go 0 h h1 o := am_go.rf.fr f (by omega) (by omega)
  exact ⟨⟨k1, k2, k3, k4, k5, k6, k7, by rw [f.1]; exact k8⟩, (f.2 _ (by omega)).trans c0, ⟨c1.kept f (by omega), x1⟩, c2, c3.kept f (by omega) c4.1.2.2.2.1.2, c4.go g (by omega), c5.kept f (by omega), (f.2 _ (by omega)).trans c6, c7.kept f (by omega), c8.kept f (by omega), hS, c10.kept f (by omega), fun e he => (c11 e he).go g (by omega)⟩
/-- the history has changed -/
theorem CCS.fh {Hs' : List GE} (k : CCS h o u b a j t s r D cm sc L tx bl le Hs) (f : am_fr h h1 r (r + 194)) (hH : HL h1 r (Hs'.map gm_e3)) (hH2 : ∀ e ∈ Hs', OKE h o e.1 e.2.1 e.2.2.1 e.2.2.2) : CCS h1 o u b a j t s r D cm sc L tx bl le Hs' := by
  obtain ⟨⟨k1, k2, k3, k4, k5, k6, k7, k8⟩, c0, ⟨c1, x1⟩, c2, c3, c4, c5, c6, c7, c8, c9, c10, c11⟩ := k
  have g : am_go 0 h h1 o := am_go.rf.fr f (by omega) (by omega)
  exact ⟨⟨k1, k2, k3, k4, k5, k6, k7, by rw [f.1]; exact k8⟩, (f.2 _ (by omega)).trans c0, ⟨c1.kept f (by omega), x1⟩, c2, c3.kept f (by omega) c4.1.2.2.2.1.2, c4.go g (by omega), c5.kept f (by omega), (f.2 _ (by omega)).trans c6, c7.kept f (by omega), c8.kept f (by omega), SCD.kept9 c9 f (by omega), hH, fun e he => (hH2 e he).go g (by omega)⟩
/-- the object's own fields, or its buffer, have changed -/
theorem CCS.fo {tx' : Int → Int} {bl' le' : Int} (k : CCS h o u b a j t s r D cm sc L tx bl le Hs) (f : am_fr h h1 o (o + 2)) (e0 : h1.1 o = some (7, 9, am_L [0, 0, 0, 0, 0, 0, 0, bl', le'], am_G [some u, some b, some a, some j, some t, some s, some r, none, none])) (e1 : GTX h1 u tx') (x1 : ∀ i, -128 ≤ tx' i ∧ tx' i ≤ 127) (b1 : 0 ≤ bl' ∧ bl' ≤ 800) : CCS h1 o u b a j t s r D cm sc L tx' bl' le' Hs := by
  obtain ⟨⟨k1, k2, k3, k4, k5, k6, k7, k8⟩, c0, -, c2, c3, c4, c5, c6, c7, c8, c9, c10, c11⟩ := k
  have g : am_go 0 h h1 o := am_go.rf.fr f (by omega) (by omega)
  exact ⟨⟨k1, k2, k3, k4, k5, k6, k7, by rw [f.1]; exact k8⟩, e0, ⟨e1, x1⟩, b1, c3.kept f (by omega) c4.1.2.2.2.1.2, c4.go g (by omega), c5.kept f (by omega), (f.2 _ (by omega)).trans c6, c7.kept f (by omega), c8.kept f (by omega), SCD.kept9 c9 f (by omega), c10.kept f (by omega), fun e he => (c11 e he).go g (by omega)⟩
theorem CCS.ob (k : CCS h o u b a j t s r D cm sc L tx bl le Hs) : am_ob h o 7 := ⟨_, _, _, k.2.1⟩
end CCSS
/-- an answer, or an exception of that number, and nothing else -/
def am_an (h : AH) (A : Int ⊕ Nat → Prop) : RV → AH → Prop := am_or (am_intp h (fun z => A (.inl z))) (fun k h1 => A (.inr k) ∧ h1 = gm_thr h)
theorem am_ok_an {h : AH} {A : Int ⊕ Nat → Prop} : ∀ v h', am_an h A (.inl v) h' → am_okr (some .int) v := am_ok_or am_ok_ip
def gA_cnt (D cm : Int → Int) (q : Int) (r : Int ⊕ Nat) : Prop := (q = 0 ∧ r = .inl (D 0)) ∨ (q = 1 ∧ r = .inl (D 1)) ∨ (q = 2 ∧ r = .inl (D 2)) ∨ (q = 3 ∧ r = .inl (D 3)) ∨ (q = 4 ∧ r = .inl (gm_sm (gm_cc D) (D 3).toNat)) ∨ (q = 5 ∧ r = .inl (gm_sm (gm_nf cm) (D 2).toNat)) ∨ ((q < 0 ∨ 5 < q) ∧ r = .inr 0)
def gA_sto (D cm : Int → Int) (k q : Int) (r : Int ⊕ Nat) : Prop := (¬ (0 ≤ k ∧ k < D 2) ∧ r = .inr 1) ∨ ((0 ≤ k ∧ k < D 2) ∧ ((q = 0 ∧ r = .inl (sX D k)) ∨ (q = 1 ∧ r = .inl (sY D k)) ∨ (q = 2 ∧ r = .inl (sV D k)) ∨ (q = 3 ∧ r = .inl (cm k)) ∨ ((q < 0 ∨ 3 < q) ∧ r = .inr 0)))
def gA_p (D : Int → Int) (p : Int) (A : Int ⊕ Nat → Prop) (r : Int ⊕ Nat) : Prop := (¬ (0 ≤ p ∧ p < D 3) ∧ r = .inr 2) ∨ ((0 ≤ p ∧ p < D 3) ∧ A r)
def gA_k (D : Int → Int) (p k : Int) (A : Int ⊕ Nat → Prop) (r : Int ⊕ Nat) : Prop := (¬ (0 ≤ k ∧ k < pN D p) ∧ r = .inr 1) ∨ ((0 ≤ k ∧ k < pN D p) ∧ A r)
def gA_xy (D : Int → Int) (x y : Int) (A : Int ⊕ Nat → Prop) (r : Int ⊕ Nat) : Prop := (¬ ((0 ≤ x ∧ x ≤ D 0) ∧ (0 ≤ y ∧ y ≤ D 1)) ∧ r = .inr 0) ∨ (((0 ≤ x ∧ x ≤ D 0) ∧ (0 ≤ y ∧ y ≤ D 1)) ∧ A r)
def gA_c (D : Int → Int) (p : Int) (A : Int ⊕ Nat → Prop) (r : Int ⊕ Nat) : Prop := (pC D p = 0 ∧ r = .inr 3) ∨ (pC D p = 1 ∧ A r)
def gA_z (P : Int → Prop) (r : Int ⊕ Nat) : Prop := ∃ z, P z ∧ r = .inl z
def gA_pol (D : Int → Int) (p q : Int) (r : Int ⊕ Nat) : Prop := (q = 0 ∧ r = .inl (pO D p)) ∨ (q = 1 ∧ r = .inl (pN D p)) ∨ (q = 2 ∧ r = .inl (pC D p)) ∨ ((q < 0 ∨ 2 < q) ∧ r = .inr 0)

set_option maxHeartbeats 1000000 in
theorem c_X8_errorOffset {w : am_w} {h : AH} {o u b a j t s r : Nat} {D cm : Int → Int} {sc : Nat} {L : GL} {tx : Int → Int} {bl le : Int} {Hs : List GE} (hX : CCS h o u b a j t s r D cm sc L tx bl le Hs)  : AE w m_X8_errorOffset 1 [vr o] h (am_intp h (fun z => z = le)) := by
  refine AE.of wf_X8_errorOffset (Nat.le_of_ble_eq_true rfl) (am_ok_ip) ?_
  obtain ⟨⟨ou, ob, oa, oj, ot, os, orr, oz⟩, c0, ⟨hXX, xr⟩, bl0, hB, ⟨hD, hE, hM, hS⟩, hA, hJ, hLJ, hR, hSC, hH, hHs⟩ := id hX
  obtain ⟨⟨sx, sy, sv, ⟨b0, b1, b2, b3, b4, b5⟩, hst⟩, hall, hsh⟩ := id hB
  have d0 := hD.1
  have d1 := hD.2.1
  have d2 := hD.2.2.1
  have d3 := hD.2.2.2.1
  have hcr : ∀ k, 0 ≤ k → k < D 2 → -1 ≤ cm k ∧ cm k < 6 := fun k k0 k1 => (hM k k0 k1).2
  refine q_blk (lv2 := [(0, vr o)]) (st2 := [vr o]) kX8_errorOffset_0 rfl ?_
  refine q_gi eX8_errorOffset_1 fl_RX8_59 (Or.inl rfl) c0 (z := le) rfl ?_
  exact q_ri rfl eX8_errorOffset_4 ⟨le, rfl, rfl, rfl⟩

set_option maxHeartbeats 1000000 in
theorem c_X8_isPlayer {w : am_w} {h : AH} {pl : Int} (r_pl : am_r pl)  : AE w m_X8_isPlayer 1 [vi pl] h (am_intp h (fun z => am_b z (0 ≤ pl ∧ pl ≤ 3))) := by
  refine AE.of wf_X8_isPlayer (Nat.le_of_ble_eq_true rfl) (am_ok_zp (fun z q => am_bz q)) ?_
  refine q_blk (lv2 := [(0, vi pl)]) (st2 := [vi pl]) kX8_isPlayer_0 rfl ?_
  refine AQ.if_lt (tgt := 13) eX8_isPlayer_1 (by decide) (by first | assumption | exact ⟨by omega, by omega⟩) (fun br1 => ?_) (fun br1 => ?_)
  · skip
    refine q_blk (lv2 := [(0, vi pl)]) (st2 := [vi 0]) kX8_isPlayer_13 rfl ?_
    exact q_rz rfl eX8_isPlayer_14 (by decide) ⟨0, rfl, Or.inr ⟨rfl, by omega⟩, rfl⟩
  · skip
    refine q_blk (lv2 := [(0, vi pl)]) (st2 := [vi 3, vi pl]) kX8_isPlayer_4 rfl ?_
    refine AQ.ic_gt (tgt := 13) eX8_isPlayer_6 (by decide) (by first | assumption | exact ⟨by omega, by omega⟩) ⟨by decide, by decide⟩ (fun br2 => ?_) (fun br2 => ?_)
    · skip
      refine q_blk (lv2 := [(0, vi pl)]) (st2 := [vi 0]) kX8_isPlayer_13 rfl ?_
      exact q_rz rfl eX8_isPlayer_14 (by decide) ⟨0, rfl, Or.inr ⟨rfl, by omega⟩, rfl⟩
    · skip
      refine q_blk (lv2 := [(0, vi pl)]) (st2 := [vi 1]) kX8_isPlayer_9 rfl ?_
      refine q_goto (tgt := 14) eX8_isPlayer_10 (by decide) ?_
      exact q_rz rfl eX8_isPlayer_14 (by decide) ⟨1, rfl, Or.inl ⟨rfl, by omega⟩, rfl⟩

set_option maxHeartbeats 1000000 in
theorem c_X8_requirePolygon {w : am_w} {h : AH} {o u b a j t s r : Nat} {D cm : Int → Int} {sc : Nat} {L : GL} {tx : Int → Int} {bl le : Int} {Hs : List GE} (hX : CCS h o u b a j t s r D cm sc L tx bl le Hs) {p : Int} (r_p : am_r p)  : AE w m_X8_requirePolygon 8 [vr o, vi p] h (am_or (am_unit (fun h1 => h = h1 ∧ (0 ≤ p ∧ p < D 3))) (fun k h1 => (¬ (0 ≤ p ∧ p < D 3) ∧ k = 2) ∧ h1 = gm_thr h)) := by
  refine AE.of wf_X8_requirePolygon (Nat.le_of_ble_eq_true rfl) (am_ok_or (am_ok_v)) ?_
  obtain ⟨⟨ou, ob, oa, oj, ot, os, orr, oz⟩, c0, ⟨hXX, xr⟩, bl0, hB, ⟨hD, hE, hM, hS⟩, hA, hJ, hLJ, hR, hSC, hH, hHs⟩ := id hX
  obtain ⟨⟨sx, sy, sv, ⟨b0, b1, b2, b3, b4, b5⟩, hst⟩, hall, hsh⟩ := id hB
  have d0 := hD.1
  have d1 := hD.2.1
  have d2 := hD.2.2.1
  have d3 := hD.2.2.2.1
  have hcr : ∀ k, 0 ≤ k → k < D 2 → -1 ≤ cm k ∧ cm k < 6 := fun k k0 k1 => (hM k k0 k1).2
  refine q_blk (lv2 := [(0, vr o), (1, vi p)]) (st2 := [vi p]) kX8_requirePolygon_0 rfl ?_
  refine AQ.if_lt (tgt := 15) eX8_requirePolygon_1 (by decide) (by first | assumption | exact ⟨by omega, by omega⟩) (fun br1 => ?_) (fun br1 => ?_)
  · skip
    exact AQ.throwS (i := 12) (k := 2) (by decide) rfl xk_2 xi_2 (by decide +kernel) xw_2 (by decide) (Nat.le_of_ble_eq_true rfl) eX8_requirePolygon_15 (by decide +kernel) eX8_requirePolygon_19 eX8_requirePolygon_21 eX8_requirePolygon_24 (by decide) (Or.inr ⟨2, rfl, ⟨by omega, rfl⟩, rfl⟩)
  · skip
    refine q_blk (lv2 := [(0, vr o), (1, vi p)]) (st2 := [vr o, vi p]) kX8_requirePolygon_4 rfl ?_
    refine q_gr eX8_requirePolygon_6 fl_RX8_16 (Or.inl ⟨_, rfl⟩) c0 rfl ?_
    refine q_gi eX8_requirePolygon_9 fl_RX8_92 (Or.inl rfl) b0 (z := (D 3)) rfl ?_
    refine AQ.ic_lt (tgt := 25) eX8_requirePolygon_12 (by decide) (by first | assumption | exact ⟨by omega, by omega⟩) (by first | assumption | exact ⟨by omega, by omega⟩) (fun br2 => ?_) (fun br2 => ?_)
    · skip
      exact q_rv rfl eX8_requirePolygon_25 (Or.inl ⟨rfl, rfl, by omega⟩)
    · skip
      exact AQ.throwS (i := 12) (k := 2) (by decide) rfl xk_2 xi_2 (by decide +kernel) xw_2 (by decide) (Nat.le_of_ble_eq_true rfl) eX8_requirePolygon_15 (by decide +kernel) eX8_requirePolygon_19 eX8_requirePolygon_21 eX8_requirePolygon_24 (by decide) (Or.inr ⟨2, rfl, ⟨by omega, rfl⟩, rfl⟩)

set_option maxHeartbeats 1000000 in
theorem c_X8_requirePlace {w : am_w} {h : AH} {o u b a j t s r : Nat} {D cm : Int → Int} {sc : Nat} {L : GL} {tx : Int → Int} {bl le : Int} {Hs : List GE} (hX : CCS h o u b a j t s r D cm sc L tx bl le Hs) {p k : Int} (r_k : am_r k) (p0 : 0 ≤ p ∧ p < D 3)  : AE w m_X8_requirePlace 8 [vr o, vi p, vi k] h (am_or (am_unit (fun h1 => h = h1 ∧ (0 ≤ k ∧ k < pN D p))) (fun k9 h1 => (¬ (0 ≤ k ∧ k < pN D p) ∧ k9 = 1) ∧ h1 = gm_thr h)) := by
  refine AE.of wf_X8_requirePlace (Nat.le_of_ble_eq_true rfl) (am_ok_or (am_ok_v)) ?_
  obtain ⟨⟨ou, ob, oa, oj, ot, os, orr, oz⟩, c0, ⟨hXX, xr⟩, bl0, hB, ⟨hD, hE, hM, hS⟩, hA, hJ, hLJ, hR, hSC, hH, hHs⟩ := id hX
  obtain ⟨⟨sx, sy, sv, ⟨b0, b1, b2, b3, b4, b5⟩, hst⟩, hall, hsh⟩ := id hB
  have d0 := hD.1
  have d1 := hD.2.1
  have d2 := hD.2.2.1
  have d3 := hD.2.2.2.1
  have hcr : ∀ k, 0 ≤ k → k < D 2 → -1 ≤ cm k ∧ cm k < 6 := fun k k0 k1 => (hM k k0 k1).2
  have hp9 := hD.2.2.2.2.2 p p0.1 p0.2
  refine q_blk (lv2 := [(0, vr o), (1, vi p), (2, vi k)]) (st2 := [vi k]) kX8_requirePlace_0 rfl ?_
  refine AQ.if_lt (tgt := 19) eX8_requirePlace_1 (by decide) (by first | assumption | exact ⟨by omega, by omega⟩) (fun br1 => ?_) (fun br1 => ?_)
  · skip
    exact AQ.throwSX (i := 17) (k := 1) (ix := 13) (rx := prog_39_method_4_code) (by decide +kernel) (by decide +kernel) (by decide +kernel) (by decide +kernel) (by decide) rfl xk_1 xi_1 (by decide +kernel) xw_1 (by decide) (Nat.le_of_ble_eq_true rfl) eX8_requirePlace_19 (by decide +kernel) eX8_requirePlace_23 eX8_requirePlace_25 eX8_requirePlace_28 (by decide) (Or.inr ⟨1, rfl, ⟨by omega, rfl⟩, rfl⟩)
  · skip
    refine q_blk (lv2 := [(0, vr o), (1, vi p), (2, vi k)]) (st2 := [vr o, vi k]) kX8_requirePlace_4 rfl ?_
    refine q_gr eX8_requirePlace_6 fl_RX8_16 (Or.inl ⟨_, rfl⟩) c0 rfl ?_
    refine q_blk (lv2 := [(0, vr o), (1, vi p), (2, vi k)]) (st2 := [vi p, vr b, vi k]) kX8_requirePlace_9 rfl ?_
    refine q_Vr (av := [vi p]) (st := [vi k]) (c_X0_shapeAt hB hD (by omega) (by omega)) lk_RX8_136 (by decide) rfl rfl hB.ob ⟨_, rfl, rfl⟩ (Nat.le_of_ble_eq_true rfl) eX8_requirePlace_10 (fun z2 e3 => ?_)
    subst e3
    have hS4 := hB.sh (p := p) (by omega) (by omega)
    obtain ⟨fx4, fy4, hP4, hn4, hc4, hx4⟩ := id hS4
    have hV4 := hD.vc (p := p) (by omega) (by omega)
    refine q_gi eX8_requirePlace_13 fl_RX8_145 (Or.inl rfl) hP4.1 (z := (pN D p)) rfl ?_
    refine AQ.ic_lt (tgt := 29) eX8_requirePlace_16 (by decide) (by first | assumption | exact ⟨by omega, by omega⟩) (by first | assumption | exact ⟨by omega, by omega⟩) (fun br5 => ?_) (fun br5 => ?_)
    · skip
      exact q_rv rfl eX8_requirePlace_29 (Or.inl ⟨rfl, rfl, by omega⟩)
    · skip
      exact AQ.throwSX (i := 17) (k := 1) (ix := 13) (rx := prog_39_method_4_code) (by decide +kernel) (by decide +kernel) (by decide +kernel) (by decide +kernel) (by decide) rfl xk_1 xi_1 (by decide +kernel) xw_1 (by decide) (Nat.le_of_ble_eq_true rfl) eX8_requirePlace_19 (by decide +kernel) eX8_requirePlace_23 eX8_requirePlace_25 eX8_requirePlace_28 (by decide) (Or.inr ⟨1, rfl, ⟨by omega, rfl⟩, rfl⟩)

set_option maxHeartbeats 1000000 in
theorem c_X8_requirePoint {w : am_w} {h : AH} {o u b a j t s r : Nat} {D cm : Int → Int} {sc : Nat} {L : GL} {tx : Int → Int} {bl le : Int} {Hs : List GE} (hX : CCS h o u b a j t s r D cm sc L tx bl le Hs) {x y : Int} (r_x : am_r x) (r_y : am_r y)  : AE w m_X8_requirePoint 8 [vr o, vi x, vi y] h (am_or (am_unit (fun h1 => h = h1 ∧ ((0 ≤ x ∧ x ≤ D 0) ∧ (0 ≤ y ∧ y ≤ D 1)))) (fun k9 h1 => (¬ ((0 ≤ x ∧ x ≤ D 0) ∧ (0 ≤ y ∧ y ≤ D 1)) ∧ k9 = 0) ∧ h1 = gm_thr h)) := by
  refine AE.of wf_X8_requirePoint (Nat.le_of_ble_eq_true rfl) (am_ok_or (am_ok_v)) ?_
  obtain ⟨⟨ou, ob, oa, oj, ot, os, orr, oz⟩, c0, ⟨hXX, xr⟩, bl0, hB, ⟨hD, hE, hM, hS⟩, hA, hJ, hLJ, hR, hSC, hH, hHs⟩ := id hX
  obtain ⟨⟨sx, sy, sv, ⟨b0, b1, b2, b3, b4, b5⟩, hst⟩, hall, hsh⟩ := id hB
  have d0 := hD.1
  have d1 := hD.2.1
  have d2 := hD.2.2.1
  have d3 := hD.2.2.2.1
  have hcr : ∀ k, 0 ≤ k → k < D 2 → -1 ≤ cm k ∧ cm k < 6 := fun k k0 k1 => (hM k k0 k1).2
  refine q_blk (lv2 := [(0, vr o), (1, vi x), (2, vi y)]) (st2 := [vi x]) kX8_requirePoint_0 rfl ?_
  refine AQ.if_lt (tgt := 30) eX8_requirePoint_1 (by decide) (by first | assumption | exact ⟨by omega, by omega⟩) (fun br1 => ?_) (fun br1 => ?_)
  · skip
    exact AQ.throwS (i := 13) (k := 0) (by decide) rfl xk_0 xi_0 (by decide +kernel) xw_0 (by decide) (Nat.le_of_ble_eq_true rfl) eX8_requirePoint_30 (by decide +kernel) eX8_requirePoint_34 eX8_requirePoint_36 eX8_requirePoint_39 (by decide) (Or.inr ⟨0, rfl, ⟨by omega, rfl⟩, rfl⟩)
  · skip
    refine q_blk (lv2 := [(0, vr o), (1, vi x), (2, vi y)]) (st2 := [vr o, vi x]) kX8_requirePoint_4 rfl ?_
    refine q_gr eX8_requirePoint_6 fl_RX8_16 (Or.inl ⟨_, rfl⟩) c0 rfl ?_
    refine q_gi eX8_requirePoint_9 fl_RX8_95 (Or.inl rfl) b0 (z := (D 0)) rfl ?_
    refine AQ.ic_gt (tgt := 30) eX8_requirePoint_12 (by decide) (by first | assumption | exact ⟨by omega, by omega⟩) (by first | assumption | exact ⟨by omega, by omega⟩) (fun br2 => ?_) (fun br2 => ?_)
    · skip
      exact AQ.throwS (i := 13) (k := 0) (by decide) rfl xk_0 xi_0 (by decide +kernel) xw_0 (by decide) (Nat.le_of_ble_eq_true rfl) eX8_requirePoint_30 (by decide +kernel) eX8_requirePoint_34 eX8_requirePoint_36 eX8_requirePoint_39 (by decide) (Or.inr ⟨0, rfl, ⟨by omega, rfl⟩, rfl⟩)
    · skip
      refine q_blk (lv2 := [(0, vr o), (1, vi x), (2, vi y)]) (st2 := [vi y]) kX8_requirePoint_15 rfl ?_
      refine AQ.if_lt (tgt := 30) eX8_requirePoint_16 (by decide) (by first | assumption | exact ⟨by omega, by omega⟩) (fun br3 => ?_) (fun br3 => ?_)
      · skip
        exact AQ.throwS (i := 13) (k := 0) (by decide) rfl xk_0 xi_0 (by decide +kernel) xw_0 (by decide) (Nat.le_of_ble_eq_true rfl) eX8_requirePoint_30 (by decide +kernel) eX8_requirePoint_34 eX8_requirePoint_36 eX8_requirePoint_39 (by decide) (Or.inr ⟨0, rfl, ⟨by omega, rfl⟩, rfl⟩)
      · skip
        refine q_blk (lv2 := [(0, vr o), (1, vi x), (2, vi y)]) (st2 := [vr o, vi y]) kX8_requirePoint_19 rfl ?_
        refine q_gr eX8_requirePoint_21 fl_RX8_16 (Or.inl ⟨_, rfl⟩) c0 rfl ?_
        refine q_gi eX8_requirePoint_24 fl_RX8_98 (Or.inl rfl) b0 (z := (D 1)) rfl ?_
        refine AQ.ic_le (tgt := 40) eX8_requirePoint_27 (by decide) (by first | assumption | exact ⟨by omega, by omega⟩) (by first | assumption | exact ⟨by omega, by omega⟩) (fun br4 => ?_) (fun br4 => ?_)
        · skip
          exact q_rv rfl eX8_requirePoint_40 (Or.inl ⟨rfl, rfl, by omega⟩)
        · skip
          exact AQ.throwS (i := 13) (k := 0) (by decide) rfl xk_0 xi_0 (by decide +kernel) xw_0 (by decide) (Nat.le_of_ble_eq_true rfl) eX8_requirePoint_30 (by decide +kernel) eX8_requirePoint_34 eX8_requirePoint_36 eX8_requirePoint_39 (by decide) (Or.inr ⟨0, rfl, ⟨by omega, rfl⟩, rfl⟩)

set_option maxHeartbeats 1000000 in
theorem c_X8_requireClosed {w : am_w} {h : AH} {o u b a j t s r : Nat} {D cm : Int → Int} {sc : Nat} {L : GL} {tx : Int → Int} {bl le : Int} {Hs : List GE} (hX : CCS h o u b a j t s r D cm sc L tx bl le Hs) {p : Int} (p0 : 0 ≤ p ∧ p < D 3)  : AE w m_X8_requireClosed 8 [vr o, vi p] h (am_or (am_unit (fun h1 => h = h1 ∧ pC D p = 1)) (fun k9 h1 => (pC D p = 0 ∧ k9 = 3) ∧ h1 = gm_thr h)) := by
  refine AE.of wf_X8_requireClosed (Nat.le_of_ble_eq_true rfl) (am_ok_or (am_ok_v)) ?_
  obtain ⟨⟨ou, ob, oa, oj, ot, os, orr, oz⟩, c0, ⟨hXX, xr⟩, bl0, hB, ⟨hD, hE, hM, hS⟩, hA, hJ, hLJ, hR, hSC, hH, hHs⟩ := id hX
  obtain ⟨⟨sx, sy, sv, ⟨b0, b1, b2, b3, b4, b5⟩, hst⟩, hall, hsh⟩ := id hB
  have d0 := hD.1
  have d1 := hD.2.1
  have d2 := hD.2.2.1
  have d3 := hD.2.2.2.1
  have hcr : ∀ k, 0 ≤ k → k < D 2 → -1 ≤ cm k ∧ cm k < 6 := fun k k0 k1 => (hM k k0 k1).2
  have hp9 := hD.2.2.2.2.2 p p0.1 p0.2
  refine q_blk (lv2 := [(0, vr o), (1, vi p)]) (st2 := [vr o]) kX8_requireClosed_0 rfl ?_
  refine q_gr eX8_requireClosed_1 fl_RX8_16 (Or.inl ⟨_, rfl⟩) c0 rfl ?_
  refine q_blk (lv2 := [(0, vr o), (1, vi p)]) (st2 := [vi p, vr b]) kX8_requireClosed_4 rfl ?_
  refine q_Vr (av := [vi p]) (st := []) (c_X0_shapeAt hB hD (by omega) (by omega)) lk_RX8_136 (by decide) rfl rfl hB.ob ⟨_, rfl, rfl⟩ (Nat.le_of_ble_eq_true rfl) eX8_requireClosed_5 (fun z1 e2 => ?_)
  subst e2
  have hS3 := hB.sh (p := p) (by omega) (by omega)
  obtain ⟨fx3, fy3, hP3, hn3, hc3, hx3⟩ := id hS3
  have hV3 := hD.vc (p := p) (by omega) (by omega)
  refine q_gi eX8_requireClosed_8 fl_RX8_148 (Or.inr rfl) hP3.1 (z := (pC D p)) rfl ?_
  refine AQ.if_ne (tgt := 25) eX8_requireClosed_11 (by decide) (by first | assumption | exact ⟨by omega, by omega⟩) (fun br4 => ?_) (fun br4 => ?_)
  · skip
    exact q_rv rfl eX8_requireClosed_25 (Or.inl ⟨rfl, rfl, by omega⟩)
  · skip
    exact AQ.throwSW (i := 14) (k := 3) (by decide) rfl xk_3 xi_3 (by decide +kernel) xw_3 (by decide) (Nat.le_of_ble_eq_true rfl) eX8_requireClosed_14 (by decide +kernel) eX8_requireClosed_18 eX8_requireClosed_21 eX8_requireClosed_24 (by decide) (Or.inr ⟨3, rfl, ⟨by omega, rfl⟩, rfl⟩)

set_option maxHeartbeats 1000000 in
theorem c_X8_count {w : am_w} {h : AH} {o u b a j t s r : Nat} {D cm : Int → Int} {sc : Nat} {L : GL} {tx : Int → Int} {bl le : Int} {Hs : List GE} (hX : CCS h o u b a j t s r D cm sc L tx bl le Hs) {q : Int} (r_q : am_r q)  : AE w m_X8_count 8 [vr o, vi q] h (am_an h (gA_cnt D cm q)) := by
  refine AE.of wf_X8_count (Nat.le_of_ble_eq_true rfl) (am_ok_an) ?_
  obtain ⟨⟨ou, ob, oa, oj, ot, os, orr, oz⟩, c0, ⟨hXX, xr⟩, bl0, hB, ⟨hD, hE, hM, hS⟩, hA, hJ, hLJ, hR, hSC, hH, hHs⟩ := id hX
  obtain ⟨⟨sx, sy, sv, ⟨b0, b1, b2, b3, b4, b5⟩, hst⟩, hall, hsh⟩ := id hB
  have d0 := hD.1
  have d1 := hD.2.1
  have d2 := hD.2.2.1
  have d3 := hD.2.2.2.1
  have hcr : ∀ k, 0 ≤ k → k < D 2 → -1 ≤ cm k ∧ cm k < 6 := fun k k0 k1 => (hM k k0 k1).2
  refine q_blk (lv2 := [(0, vr o), (1, vi q)]) (st2 := [vi q]) kX8_count_0 rfl ?_
  rcases (show q = 0 ∨ q = 1 ∨ q = 2 ∨ q = 3 ∨ q = 4 ∨ q = 5 ∨ (q < 0 ∨ 5 < q) by omega) with sw1 | sw1 | sw1 | sw1 | sw1 | sw1 | sw1
  · skip
    refine AQ.of (AS.tabIn (z := q) (off := 39) (tgt := 40) eX8_count_1 (by first | assumption | exact ⟨by omega, by omega⟩) (by omega) (by omega) (by rw [sw1]; rfl) (by decide)) ?_
    refine q_blk (lv2 := [(0, vr o), (1, vi q)]) (st2 := [vr o]) kX8_count_40 rfl ?_
    refine q_gr eX8_count_41 fl_RX8_16 (Or.inl ⟨_, rfl⟩) c0 rfl ?_
    refine q_gi eX8_count_44 fl_RX8_95 (Or.inl rfl) b0 (z := (D 0)) rfl ?_
    exact q_ri rfl eX8_count_47 (Or.inl ⟨(D 0), rfl, (Or.inl ⟨by omega, rfl⟩), rfl⟩)
  · skip
    refine AQ.of (AS.tabIn (z := q) (off := 47) (tgt := 48) eX8_count_1 (by first | assumption | exact ⟨by omega, by omega⟩) (by omega) (by omega) (by rw [sw1]; rfl) (by decide)) ?_
    refine q_blk (lv2 := [(0, vr o), (1, vi q)]) (st2 := [vr o]) kX8_count_48 rfl ?_
    refine q_gr eX8_count_49 fl_RX8_16 (Or.inl ⟨_, rfl⟩) c0 rfl ?_
    refine q_gi eX8_count_52 fl_RX8_98 (Or.inl rfl) b0 (z := (D 1)) rfl ?_
    exact q_ri rfl eX8_count_55 (Or.inl ⟨(D 1), rfl, (Or.inr (Or.inl ⟨by omega, rfl⟩)), rfl⟩)
  · skip
    refine AQ.of (AS.tabIn (z := q) (off := 55) (tgt := 56) eX8_count_1 (by first | assumption | exact ⟨by omega, by omega⟩) (by omega) (by omega) (by rw [sw1]; rfl) (by decide)) ?_
    refine q_blk (lv2 := [(0, vr o), (1, vi q)]) (st2 := [vr o]) kX8_count_56 rfl ?_
    refine q_gr eX8_count_57 fl_RX8_16 (Or.inl ⟨_, rfl⟩) c0 rfl ?_
    refine q_gi eX8_count_60 fl_RX8_101 (Or.inl rfl) b0 (z := (D 2)) rfl ?_
    exact q_ri rfl eX8_count_63 (Or.inl ⟨(D 2), rfl, (Or.inr (Or.inr (Or.inl ⟨by omega, rfl⟩))), rfl⟩)
  · skip
    refine AQ.of (AS.tabIn (z := q) (off := 63) (tgt := 64) eX8_count_1 (by first | assumption | exact ⟨by omega, by omega⟩) (by omega) (by omega) (by rw [sw1]; rfl) (by decide)) ?_
    refine q_blk (lv2 := [(0, vr o), (1, vi q)]) (st2 := [vr o]) kX8_count_64 rfl ?_
    refine q_gr eX8_count_65 fl_RX8_16 (Or.inl ⟨_, rfl⟩) c0 rfl ?_
    refine q_gi eX8_count_68 fl_RX8_92 (Or.inl rfl) b0 (z := (D 3)) rfl ?_
    exact q_ri rfl eX8_count_71 (Or.inl ⟨(D 3), rfl, (Or.inr (Or.inr (Or.inr (Or.inl ⟨by omega, rfl⟩)))), rfl⟩)
  · skip
    refine AQ.of (AS.tabIn (z := q) (off := 71) (tgt := 72) eX8_count_1 (by first | assumption | exact ⟨by omega, by omega⟩) (by omega) (by omega) (by rw [sw1]; rfl) (by decide)) ?_
    refine q_blk (lv2 := [(0, vr o), (1, vi q)]) (st2 := [vr o]) kX8_count_72 rfl ?_
    refine q_gr eX8_count_73 fl_RX8_16 (Or.inl ⟨_, rfl⟩) c0 rfl ?_
    refine q_Vi (av := []) (st := []) (c_X0_closedShapes hB hD) lk_RX8_104 (by decide) rfl rfl hB.ob ⟨_, rfl, rfl⟩ (Nat.le_of_ble_eq_true rfl) eX8_count_76 (fun z2 e3 => ?_)
    subst e3
    exact q_ri rfl eX8_count_79 (Or.inl ⟨(gm_sm (gm_cc D) (D 3).toNat), rfl, (Or.inr (Or.inr (Or.inr (Or.inr (Or.inl ⟨by omega, rfl⟩))))), rfl⟩)
  · skip
    refine AQ.of (AS.tabIn (z := q) (off := 79) (tgt := 80) eX8_count_1 (by first | assumption | exact ⟨by omega, by omega⟩) (by omega) (by omega) (by rw [sw1]; rfl) (by decide)) ?_
    refine q_blk (lv2 := [(0, vr o), (1, vi q)]) (st2 := [vr o]) kX8_count_80 rfl ?_
    refine q_gr eX8_count_81 fl_RX8_16 (Or.inl ⟨_, rfl⟩) c0 rfl ?_
    refine q_Vi (av := []) (st := []) (c_X0_claimedStones hB hD hcr) lk_RX8_108 (by decide) rfl rfl hB.ob ⟨_, rfl, rfl⟩ (Nat.le_of_ble_eq_true rfl) eX8_count_84 (fun z4 e5 => ?_)
    subst e5
    exact q_ri rfl eX8_count_87 (Or.inl ⟨(gm_sm (gm_nf cm) (D 2).toNat), rfl, (Or.inr (Or.inr (Or.inr (Or.inr (Or.inr (Or.inl ⟨by omega, rfl⟩)))))), rfl⟩)
  · skip
    refine AQ.of (AS.tabOut (z := q) (tgt := 88) eX8_count_1 (by first | assumption | exact ⟨by omega, by omega⟩) sw1 (by decide)) ?_
    exact AQ.throwS (i := 34) (k := 0) (by decide) rfl xk_0 xi_0 (by decide +kernel) xw_0 (by decide) (Nat.le_of_ble_eq_true rfl) eX8_count_88 (by decide +kernel) eX8_count_92 eX8_count_94 eX8_count_97 (by decide) (Or.inr ⟨0, rfl, (Or.inr (Or.inr (Or.inr (Or.inr (Or.inr (Or.inr ⟨by omega, rfl⟩)))))), rfl⟩)

set_option maxHeartbeats 1000000 in
theorem c_X8_stone {w : am_w} {h : AH} {o u b a j t s r : Nat} {D cm : Int → Int} {sc : Nat} {L : GL} {tx : Int → Int} {bl le : Int} {Hs : List GE} (hX : CCS h o u b a j t s r D cm sc L tx bl le Hs) {k q : Int} (r_k : am_r k) (r_q : am_r q)  : AE w m_X8_stone 8 [vr o, vi k, vi q] h (am_an h (gA_sto D cm k q)) := by
  refine AE.of wf_X8_stone (Nat.le_of_ble_eq_true rfl) (am_ok_an) ?_
  obtain ⟨⟨ou, ob, oa, oj, ot, os, orr, oz⟩, c0, ⟨hXX, xr⟩, bl0, hB, ⟨hD, hE, hM, hS⟩, hA, hJ, hLJ, hR, hSC, hH, hHs⟩ := id hX
  obtain ⟨⟨sx, sy, sv, ⟨b0, b1, b2, b3, b4, b5⟩, hst⟩, hall, hsh⟩ := id hB
  have d0 := hD.1
  have d1 := hD.2.1
  have d2 := hD.2.2.1
  have d3 := hD.2.2.2.1
  have hcr : ∀ k, 0 ≤ k → k < D 2 → -1 ≤ cm k ∧ cm k < 6 := fun k k0 k1 => (hM k k0 k1).2
  refine q_blk (lv2 := [(0, vr o), (1, vi k), (2, vi q)]) (st2 := [vi k]) kX8_stone_0 rfl ?_
  refine AQ.if_lt (tgt := 15) eX8_stone_1 (by decide) (by first | assumption | exact ⟨by omega, by omega⟩) (fun br1 => ?_) (fun br1 => ?_)
  · skip
    exact AQ.throwSX (i := 10) (k := 1) (ix := 13) (rx := prog_39_method_4_code) (by decide +kernel) (by decide +kernel) (by decide +kernel) (by decide +kernel) (by decide) rfl xk_1 xi_1 (by decide +kernel) xw_1 (by decide) (Nat.le_of_ble_eq_true rfl) eX8_stone_15 (by decide +kernel) eX8_stone_19 eX8_stone_21 eX8_stone_24 (by decide) (Or.inr ⟨1, rfl, Or.inl ⟨by omega, rfl⟩, rfl⟩)
  · skip
    refine q_blk (lv2 := [(0, vr o), (1, vi k), (2, vi q)]) (st2 := [vr o, vi k]) kX8_stone_4 rfl ?_
    refine q_gr eX8_stone_6 fl_RX8_16 (Or.inl ⟨_, rfl⟩) c0 rfl ?_
    refine q_gi eX8_stone_9 fl_RX8_101 (Or.inl rfl) b0 (z := (D 2)) rfl ?_
    refine AQ.ic_lt (tgt := 25) eX8_stone_12 (by decide) (by first | assumption | exact ⟨by omega, by omega⟩) (by first | assumption | exact ⟨by omega, by omega⟩) (fun br2 => ?_) (fun br2 => ?_)
    · skip
      refine q_blk (lv2 := [(0, vr o), (1, vi k), (2, vi q)]) (st2 := [vi q]) kX8_stone_25 rfl ?_
      rcases (show q = 0 ∨ q = 1 ∨ q = 2 ∨ q = 3 ∨ (q < 0 ∨ 3 < q) by omega) with sw3 | sw3 | sw3 | sw3 | sw3
      · skip
        refine AQ.of (AS.tabIn (z := q) (off := 30) (tgt := 56) eX8_stone_26 (by first | assumption | exact ⟨by omega, by omega⟩) (by omega) (by omega) (by rw [sw3]; rfl) (by decide)) ?_
        refine q_blk (lv2 := [(0, vr o), (1, vi k), (2, vi q)]) (st2 := [vr o]) kX8_stone_56 rfl ?_
        refine q_gr eX8_stone_57 fl_RX8_16 (Or.inl ⟨_, rfl⟩) c0 rfl ?_
        refine q_blk (lv2 := [(0, vr o), (1, vi k), (2, vi q)]) (st2 := [vi k, vr b]) kX8_stone_60 rfl ?_
        refine q_Vi (av := [vi k]) (st := []) (c_X0_stoneX hB hD (by omega) (by omega)) lk_RX8_118 (by decide) rfl rfl hB.ob ⟨_, rfl, rfl⟩ (Nat.le_of_ble_eq_true rfl) eX8_stone_61 (fun z4 e5 => ?_)
        subst e5
        exact q_ri rfl eX8_stone_64 (Or.inl ⟨(sX D k), rfl, Or.inr ⟨⟨by omega, by omega⟩, (Or.inl ⟨by omega, rfl⟩)⟩, rfl⟩)
      · skip
        refine AQ.of (AS.tabIn (z := q) (off := 39) (tgt := 65) eX8_stone_26 (by first | assumption | exact ⟨by omega, by omega⟩) (by omega) (by omega) (by rw [sw3]; rfl) (by decide)) ?_
        refine q_blk (lv2 := [(0, vr o), (1, vi k), (2, vi q)]) (st2 := [vr o]) kX8_stone_65 rfl ?_
        refine q_gr eX8_stone_66 fl_RX8_16 (Or.inl ⟨_, rfl⟩) c0 rfl ?_
        refine q_blk (lv2 := [(0, vr o), (1, vi k), (2, vi q)]) (st2 := [vi k, vr b]) kX8_stone_69 rfl ?_
        refine q_Vi (av := [vi k]) (st := []) (c_X0_stoneY hB hD (by omega) (by omega)) lk_RX8_122 (by decide) rfl rfl hB.ob ⟨_, rfl, rfl⟩ (Nat.le_of_ble_eq_true rfl) eX8_stone_70 (fun z6 e7 => ?_)
        subst e7
        exact q_ri rfl eX8_stone_73 (Or.inl ⟨(sY D k), rfl, Or.inr ⟨⟨by omega, by omega⟩, (Or.inr (Or.inl ⟨by omega, rfl⟩))⟩, rfl⟩)
      · skip
        refine AQ.of (AS.tabIn (z := q) (off := 48) (tgt := 74) eX8_stone_26 (by first | assumption | exact ⟨by omega, by omega⟩) (by omega) (by omega) (by rw [sw3]; rfl) (by decide)) ?_
        refine q_blk (lv2 := [(0, vr o), (1, vi k), (2, vi q)]) (st2 := [vr o]) kX8_stone_74 rfl ?_
        refine q_gr eX8_stone_75 fl_RX8_16 (Or.inl ⟨_, rfl⟩) c0 rfl ?_
        refine q_blk (lv2 := [(0, vr o), (1, vi k), (2, vi q)]) (st2 := [vi k, vr b]) kX8_stone_78 rfl ?_
        refine q_Vi (av := [vi k]) (st := []) (c_X0_stoneValue hB hD (by omega) (by omega)) lk_RX8_125 (by decide) rfl rfl hB.ob ⟨_, rfl, rfl⟩ (Nat.le_of_ble_eq_true rfl) eX8_stone_79 (fun z8 e9 => ?_)
        subst e9
        exact q_ri rfl eX8_stone_82 (Or.inl ⟨(sV D k), rfl, Or.inr ⟨⟨by omega, by omega⟩, (Or.inr (Or.inr (Or.inl ⟨by omega, rfl⟩)))⟩, rfl⟩)
      · skip
        refine AQ.of (AS.tabIn (z := q) (off := 57) (tgt := 83) eX8_stone_26 (by first | assumption | exact ⟨by omega, by omega⟩) (by omega) (by omega) (by rw [sw3]; rfl) (by decide)) ?_
        refine q_blk (lv2 := [(0, vr o), (1, vi k), (2, vi q)]) (st2 := [vr o]) kX8_stone_83 rfl ?_
        refine q_gr eX8_stone_84 fl_RX8_16 (Or.inl ⟨_, rfl⟩) c0 rfl ?_
        refine q_blk (lv2 := [(0, vr o), (1, vi k), (2, vi q)]) (st2 := [vi k, vr b]) kX8_stone_87 rfl ?_
        refine q_Vi (av := [vi k]) (st := []) (c_X0_claimOf hB hD (by omega) (by omega)) lk_RX8_128 (by decide) rfl rfl hB.ob ⟨_, rfl, rfl⟩ (Nat.le_of_ble_eq_true rfl) eX8_stone_88 (fun z10 e11 => ?_)
        subst e11
        exact q_ri rfl eX8_stone_91 (Or.inl ⟨(cm k), rfl, Or.inr ⟨⟨by omega, by omega⟩, (Or.inr (Or.inr (Or.inr (Or.inl ⟨by omega, rfl⟩))))⟩, rfl⟩)
      · skip
        refine AQ.of (AS.tabOut (z := q) (tgt := 92) eX8_stone_26 (by first | assumption | exact ⟨by omega, by omega⟩) sw3 (by decide)) ?_
        exact AQ.throwS (i := 11) (k := 0) (by decide) rfl xk_0 xi_0 (by decide +kernel) xw_0 (by decide) (Nat.le_of_ble_eq_true rfl) eX8_stone_92 (by decide +kernel) eX8_stone_96 eX8_stone_98 eX8_stone_101 (by decide) (Or.inr ⟨0, rfl, Or.inr ⟨⟨by omega, by omega⟩, (Or.inr (Or.inr (Or.inr (Or.inr ⟨by omega, rfl⟩))))⟩, rfl⟩)
    · skip
      exact AQ.throwSX (i := 10) (k := 1) (ix := 13) (rx := prog_39_method_4_code) (by decide +kernel) (by decide +kernel) (by decide +kernel) (by decide +kernel) (by decide) rfl xk_1 xi_1 (by decide +kernel) xw_1 (by decide) (Nat.le_of_ble_eq_true rfl) eX8_stone_15 (by decide +kernel) eX8_stone_19 eX8_stone_21 eX8_stone_24 (by decide) (Or.inr ⟨1, rfl, Or.inl ⟨by omega, rfl⟩, rfl⟩)

set_option maxHeartbeats 1000000 in
theorem c_X8_polygon {w : am_w} {h : AH} {o u b a j t s r : Nat} {D cm : Int → Int} {sc : Nat} {L : GL} {tx : Int → Int} {bl le : Int} {Hs : List GE} (hX : CCS h o u b a j t s r D cm sc L tx bl le Hs) {p q : Int} (r_p : am_r p) (r_q : am_r q)  : AE w m_X8_polygon 9 [vr o, vi p, vi q] h (am_an h (gA_p D p (gA_pol D p q))) := by
  refine AE.of wf_X8_polygon (Nat.le_of_ble_eq_true rfl) (am_ok_an) ?_
  obtain ⟨⟨ou, ob, oa, oj, ot, os, orr, oz⟩, c0, ⟨hXX, xr⟩, bl0, hB, ⟨hD, hE, hM, hS⟩, hA, hJ, hLJ, hR, hSC, hH, hHs⟩ := id hX
  obtain ⟨⟨sx, sy, sv, ⟨b0, b1, b2, b3, b4, b5⟩, hst⟩, hall, hsh⟩ := id hB
  have d0 := hD.1
  have d1 := hD.2.1
  have d2 := hD.2.2.1
  have d3 := hD.2.2.2.1
  have hcr : ∀ k, 0 ≤ k → k < D 2 → -1 ≤ cm k ∧ cm k < 6 := fun k k0 k1 => (hM k k0 k1).2
  refine q_blk (lv2 := [(0, vr o), (1, vi p), (2, vi q)]) (st2 := [vi p, vr o]) kX8_polygon_0 rfl ?_
  refine AQ.callxVv (av := [vi p]) (st := []) (c_X8_requirePolygon hX r_p) lk_RX8_133 (by decide) rfl rfl hX.ob ⟨_, rfl, rfl⟩ (Nat.le_of_ble_eq_true rfl) eX8_polygon_2 (by decide) (fun k9 h9 q9 => Or.inr ⟨k9, rfl, Or.inl ⟨q9.1.1, congrArg Sum.inr q9.1.2⟩, q9.2⟩) (fun h3 e2 => ?_)
  obtain ⟨rfl, hqP⟩ := e2
  have hp9 := hD.2.2.2.2.2 p hqP.1 hqP.2
  refine q_blk (lv2 := [(0, vr o), (1, vi p), (2, vi q)]) (st2 := [vr o]) kX8_polygon_5 rfl ?_
  refine q_gr eX8_polygon_6 fl_RX8_16 (Or.inl ⟨_, rfl⟩) c0 rfl ?_
  refine q_blk (lv2 := [(0, vr o), (1, vi p), (2, vi q)]) (st2 := [vi p, vr b]) kX8_polygon_9 rfl ?_
  refine q_Vr (av := [vi p]) (st := []) (c_X0_shapeAt hB hD (by omega) (by omega)) lk_RX8_136 (by decide) rfl rfl hB.ob ⟨_, rfl, rfl⟩ (Nat.le_of_ble_eq_true rfl) eX8_polygon_10 (fun z4 e5 => ?_)
  subst e5
  have hS6 := hB.sh (p := p) (by omega) (by omega)
  obtain ⟨fx6, fy6, hP6, hn6, hc6, hx6⟩ := id hS6
  have hV6 := hD.vc (p := p) (by omega) (by omega)
  refine q_blk (lv2 := [(0, vr o), (1, vi p), (2, vi q), (3, vr (b + 6 + 3 * (Int.toNat p)))]) (st2 := [vi q]) kX8_polygon_13 rfl ?_
  rcases (show q = 0 ∨ q = 1 ∨ q = 2 ∨ (q < 0 ∨ 2 < q) by omega) with sw7 | sw7 | sw7 | sw7
  · skip
    refine AQ.of (AS.tabIn (z := q) (off := 25) (tgt := 40) eX8_polygon_15 (by first | assumption | exact ⟨by omega, by omega⟩) (by omega) (by omega) (by rw [sw7]; rfl) (by decide)) ?_
    refine q_blk (lv2 := [(0, vr o), (1, vi p), (2, vi q), (3, vr (b + 6 + 3 * (Int.toNat p)))]) (st2 := [vr (b + 6 + 3 * (Int.toNat p))]) kX8_polygon_40 rfl ?_
    refine q_gi eX8_polygon_41 fl_RX8_140 (Or.inl rfl) hP6.1 (z := (pO D p)) rfl ?_
    exact q_ri rfl eX8_polygon_44 (Or.inl ⟨(pO D p), rfl, Or.inr ⟨hqP, (Or.inl ⟨by omega, by first | rfl | exact congrArg Sum.inl (by omega)⟩)⟩, rfl⟩)
  · skip
    refine AQ.of (AS.tabIn (z := q) (off := 30) (tgt := 45) eX8_polygon_15 (by first | assumption | exact ⟨by omega, by omega⟩) (by omega) (by omega) (by rw [sw7]; rfl) (by decide)) ?_
    refine q_blk (lv2 := [(0, vr o), (1, vi p), (2, vi q), (3, vr (b + 6 + 3 * (Int.toNat p)))]) (st2 := [vr (b + 6 + 3 * (Int.toNat p))]) kX8_polygon_45 rfl ?_
    refine q_gi eX8_polygon_46 fl_RX8_145 (Or.inl rfl) hP6.1 (z := (pN D p)) rfl ?_
    exact q_ri rfl eX8_polygon_49 (Or.inl ⟨(pN D p), rfl, Or.inr ⟨hqP, (Or.inr (Or.inl ⟨by omega, by first | rfl | exact congrArg Sum.inl (by omega)⟩))⟩, rfl⟩)
  · skip
    refine AQ.of (AS.tabIn (z := q) (off := 35) (tgt := 50) eX8_polygon_15 (by first | assumption | exact ⟨by omega, by omega⟩) (by omega) (by omega) (by rw [sw7]; rfl) (by decide)) ?_
    refine q_blk (lv2 := [(0, vr o), (1, vi p), (2, vi q), (3, vr (b + 6 + 3 * (Int.toNat p)))]) (st2 := [vr (b + 6 + 3 * (Int.toNat p))]) kX8_polygon_50 rfl ?_
    refine q_gi eX8_polygon_51 fl_RX8_148 (Or.inr rfl) hP6.1 (z := (pC D p)) rfl ?_
    refine AQ.if_eq (tgt := 61) eX8_polygon_54 (by decide) (by first | assumption | exact ⟨by omega, by omega⟩) (fun br8 => ?_) (fun br8 => ?_)
    · skip
      refine q_blk (lv2 := [(0, vr o), (1, vi p), (2, vi q), (3, vr (b + 6 + 3 * (Int.toNat p)))]) (st2 := [vi 0]) kX8_polygon_61 rfl ?_
      exact q_ri rfl eX8_polygon_62 (Or.inl ⟨0, rfl, Or.inr ⟨hqP, (Or.inr (Or.inr (Or.inl ⟨by omega, by first | rfl | exact congrArg Sum.inl (by omega)⟩)))⟩, rfl⟩)
    · skip
      refine q_blk (lv2 := [(0, vr o), (1, vi p), (2, vi q), (3, vr (b + 6 + 3 * (Int.toNat p)))]) (st2 := [vi 1]) kX8_polygon_57 rfl ?_
      refine q_goto (tgt := 62) eX8_polygon_58 (by decide) ?_
      exact q_ri rfl eX8_polygon_62 (Or.inl ⟨1, rfl, Or.inr ⟨hqP, (Or.inr (Or.inr (Or.inl ⟨by omega, by first | rfl | exact congrArg Sum.inl (by omega)⟩)))⟩, rfl⟩)
  · skip
    refine AQ.of (AS.tabOut (z := q) (tgt := 63) eX8_polygon_15 (by first | assumption | exact ⟨by omega, by omega⟩) sw7 (by decide)) ?_
    exact AQ.throwS (i := 35) (k := 0) (by decide) rfl xk_0 xi_0 (by decide +kernel) xw_0 (by decide) (Nat.le_of_ble_eq_true rfl) eX8_polygon_63 (by decide +kernel) eX8_polygon_67 eX8_polygon_69 eX8_polygon_72 (by decide) (Or.inr ⟨0, rfl, Or.inr ⟨hqP, (Or.inr (Or.inr (Or.inr ⟨by omega, rfl⟩)))⟩, rfl⟩)

set_option maxHeartbeats 1000000 in
theorem c_X8_cornerAt {w : am_w} {h : AH} {o u b a j t s r : Nat} {D cm : Int → Int} {sc : Nat} {L : GL} {tx : Int → Int} {bl le : Int} {Hs : List GE} (hX : CCS h o u b a j t s r D cm sc L tx bl le Hs) {p k : Int} (r_p : am_r p) (r_k : am_r k)  : AE w m_X8_cornerAt 9 [vr o, vi p, vi k] h (am_an h (gA_p D p (gA_k D p k (fun r => r = .inl (100 * pX D p k + pY D p k))))) := by
  refine AE.of wf_X8_cornerAt (Nat.le_of_ble_eq_true rfl) (am_ok_an) ?_
  obtain ⟨⟨ou, ob, oa, oj, ot, os, orr, oz⟩, c0, ⟨hXX, xr⟩, bl0, hB, ⟨hD, hE, hM, hS⟩, hA, hJ, hLJ, hR, hSC, hH, hHs⟩ := id hX
  obtain ⟨⟨sx, sy, sv, ⟨b0, b1, b2, b3, b4, b5⟩, hst⟩, hall, hsh⟩ := id hB
  have d0 := hD.1
  have d1 := hD.2.1
  have d2 := hD.2.2.1
  have d3 := hD.2.2.2.1
  have hcr : ∀ k, 0 ≤ k → k < D 2 → -1 ≤ cm k ∧ cm k < 6 := fun k k0 k1 => (hM k k0 k1).2
  refine q_blk (lv2 := [(0, vr o), (1, vi p), (2, vi k)]) (st2 := [vi p, vr o]) kX8_cornerAt_0 rfl ?_
  refine AQ.callxVv (av := [vi p]) (st := []) (c_X8_requirePolygon hX r_p) lk_RX8_133 (by decide) rfl rfl hX.ob ⟨_, rfl, rfl⟩ (Nat.le_of_ble_eq_true rfl) eX8_cornerAt_2 (by decide) (fun k9 h9 q9 => Or.inr ⟨k9, rfl, Or.inl ⟨q9.1.1, congrArg Sum.inr q9.1.2⟩, q9.2⟩) (fun h3 e2 => ?_)
  obtain ⟨rfl, hqP⟩ := e2
  refine q_blk (lv2 := [(0, vr o), (1, vi p), (2, vi k)]) (st2 := [vi k, vi p, vr o]) kX8_cornerAt_5 rfl ?_
  refine AQ.callxVv (av := [vi p, vi k]) (st := []) (c_X8_requirePlace hX r_k hqP) lk_RX8_154 (by decide) rfl rfl hX.ob ⟨_, rfl, rfl⟩ (Nat.le_of_ble_eq_true rfl) eX8_cornerAt_8 (by decide) (fun k9 h9 q9 => Or.inr ⟨k9, rfl, Or.inr ⟨hqP, Or.inl ⟨q9.1.1, congrArg Sum.inr q9.1.2⟩⟩, q9.2⟩) (fun h6 e5 => ?_)
  obtain ⟨rfl, hqK⟩ := e5
  refine q_blk (lv2 := [(0, vr o), (1, vi p), (2, vi k)]) (st2 := [vr o]) kX8_cornerAt_11 rfl ?_
  refine q_gr eX8_cornerAt_12 fl_RX8_16 (Or.inl ⟨_, rfl⟩) c0 rfl ?_
  refine q_blk (lv2 := [(0, vr o), (1, vi p), (2, vi k)]) (st2 := [vi p, vr b]) kX8_cornerAt_15 rfl ?_
  refine q_Vr (av := [vi p]) (st := []) (c_X0_shapeAt hB hD (by omega) (by omega)) lk_RX8_136 (by decide) rfl rfl hB.ob ⟨_, rfl, rfl⟩ (Nat.le_of_ble_eq_true rfl) eX8_cornerAt_16 (fun z7 e8 => ?_)
  subst e8
  have hS9 := hB.sh (p := p) (by omega) (by omega)
  obtain ⟨fx9, fy9, hP9, hn9, hc9, hx9⟩ := id hS9
  have hV9 := hD.vc (p := p) (by omega) (by omega)
  refine q_blk (lv2 := [(0, vr o), (1, vi p), (2, vi k)]) (st2 := [vi k, vr (b + 6 + 3 * (Int.toNat p))]) kX8_cornerAt_19 rfl ?_
  refine q_Vi (av := [vi k]) (st := []) (c_X7_codeOfCorner hS9 (by omega) (by omega)) lk_RX8_158 (by decide) rfl rfl hS9.ob ⟨_, rfl, rfl⟩ (Nat.le_of_ble_eq_true rfl) eX8_cornerAt_20 (fun z10 e11 => ?_)
  subst e11
  exact q_ri rfl eX8_cornerAt_23 (Or.inl ⟨(100 * (pX D p) k + (pY D p) k), rfl, (Or.inr ⟨hqP, Or.inr ⟨hqK, rfl⟩⟩), rfl⟩)

set_option maxHeartbeats 1000000 in
theorem c_X8_area {w : am_w} {h : AH} {o u b a j t s r : Nat} {D cm : Int → Int} {sc : Nat} {L : GL} {tx : Int → Int} {bl le : Int} {Hs : List GE} (hX : CCS h o u b a j t s r D cm sc L tx bl le Hs) {p : Int} (r_p : am_r p)  : AE w m_X8_area 9 [vr o, vi p] h (am_an h (gA_p D p (gA_c D p (gA_z (fun z => z = gm_arD D p))))) := by
  refine AE.of wf_X8_area (Nat.le_of_ble_eq_true rfl) (am_ok_an) ?_
  obtain ⟨⟨ou, ob, oa, oj, ot, os, orr, oz⟩, c0, ⟨hXX, xr⟩, bl0, hB, ⟨hD, hE, hM, hS⟩, hA, hJ, hLJ, hR, hSC, hH, hHs⟩ := id hX
  obtain ⟨⟨sx, sy, sv, ⟨b0, b1, b2, b3, b4, b5⟩, hst⟩, hall, hsh⟩ := id hB
  have d0 := hD.1
  have d1 := hD.2.1
  have d2 := hD.2.2.1
  have d3 := hD.2.2.2.1
  have hcr : ∀ k, 0 ≤ k → k < D 2 → -1 ≤ cm k ∧ cm k < 6 := fun k k0 k1 => (hM k k0 k1).2
  refine q_blk (lv2 := [(0, vr o), (1, vi p)]) (st2 := [vi p, vr o]) kX8_area_0 rfl ?_
  refine AQ.callxVv (av := [vi p]) (st := []) (c_X8_requirePolygon hX r_p) lk_RX8_133 (by decide) rfl rfl hX.ob ⟨_, rfl, rfl⟩ (Nat.le_of_ble_eq_true rfl) eX8_area_2 (by decide) (fun k9 h9 q9 => Or.inr ⟨k9, rfl, Or.inl ⟨q9.1.1, congrArg Sum.inr q9.1.2⟩, q9.2⟩) (fun h3 e2 => ?_)
  obtain ⟨rfl, hqP⟩ := e2
  refine q_blk (lv2 := [(0, vr o), (1, vi p)]) (st2 := [vi p, vr o]) kX8_area_5 rfl ?_
  refine AQ.callxVv (av := [vi p]) (st := []) (c_X8_requireClosed hX hqP) lk_RX8_168 (by decide) rfl rfl hX.ob ⟨_, rfl, rfl⟩ (Nat.le_of_ble_eq_true rfl) eX8_area_7 (by decide) (fun k9 h9 q9 => Or.inr ⟨k9, rfl, Or.inr ⟨hqP, Or.inl ⟨q9.1.1, congrArg Sum.inr q9.1.2⟩⟩, q9.2⟩) (fun h6 e5 => ?_)
  obtain ⟨rfl, hqC⟩ := e5
  refine q_blk (lv2 := [(0, vr o), (1, vi p)]) (st2 := [vr o]) kX8_area_10 rfl ?_
  refine q_gr eX8_area_11 fl_RX8_16 (Or.inl ⟨_, rfl⟩) c0 rfl ?_
  refine q_blk (lv2 := [(0, vr o), (1, vi p)]) (st2 := [vi p, vr b]) kX8_area_14 rfl ?_
  refine q_Vr (av := [vi p]) (st := []) (c_X0_shapeAt hB hD (by omega) (by omega)) lk_RX8_136 (by decide) rfl rfl hB.ob ⟨_, rfl, rfl⟩ (Nat.le_of_ble_eq_true rfl) eX8_area_15 (fun z7 e8 => ?_)
  subst e8
  have hS9 := hB.sh (p := p) (by omega) (by omega)
  obtain ⟨fx9, fy9, hP9, hn9, hc9, hx9⟩ := id hS9
  have hV9 := hD.vc (p := p) (by omega) (by omega)
  refine q_Vi (av := []) (st := []) (c_X7_doubledArea hS9 hV9) lk_RX8_175 (by decide) rfl rfl hS9.ob ⟨_, rfl, rfl⟩ (Nat.le_of_ble_eq_true rfl) eX8_area_18 (fun z10 e11 => ?_)
  exact q_ri rfl eX8_area_21 (Or.inl ⟨z10, rfl, (Or.inr ⟨hqP, Or.inr ⟨hqC, ⟨_, e11, rfl⟩⟩⟩), rfl⟩)
