/-! The law's loop: the switch, corners added. -/
section MIDS
variable {w : am_w} {o bu r bf f sa pa : Nat} {gs gp : Int → Option Nat} {T : Option Nat} {L : GL} {h h1 : AH} {D cm : Int → Int} {sc : Nat} {tx : Int → Int} {bl le : Int} {Hs H1 : List GE} {g : Nat}
theorem INC.kn {c s : Nat} (x : INC w o bu r bf f sa pa gs gp T L h D cm sc tx bl le Hs H1 g) (k : KF h h1 NO c s) : INC w o bu r bf f sa pa gs gp T L h1 D cm sc tx bl le Hs H1 g := by
  obtain ⟨a, b, ⟨nn, ff, fg, z⟩, e⟩ := x
  exact ⟨a.kn k, b.kf k (fun q z => z.elim) (fun q m => Or.inl m), ⟨nn, ff, fg, (e.fr k (fun q z => z.elim)).trans z⟩, e.up k.2.1.1 (fun q m => Or.inl m)⟩
/-- the field has changed, the class not yet -/
def MID (w : am_w) (o bu r bf f sa pa : Nat) (gs gp : Int → Option Nat) (T : Option Nat) (L : GL) (h : AH) (D cm : Int → Int) (sc : Nat) (tx : Int → Int) (bl le : Int) (Hs H1 : List GE) (g : Nat) (E : Int → Int) : Prop := LC w h o bu D cm sc L tx bl le Hs ∧ (FLD h (LB o bu r bf h) f sa pa gs gp T E ∧ FX E ∧ OTH o bu r bf f gp (E 3) T L h H1) ∧ CPO o bu r bf f gp (E 3) T L h g (D, cm, sc, L) ∧ am_ob h g 8 ∧ LBM o bu r bf f gp (E 3) h g
theorem MID.inc (x : INC w o bu r bf f sa pa gs gp T L h D cm sc tx bl le Hs H1 g) : MID w o bu r bf f sa pa gs gp T L h D cm sc tx bl le Hs H1 g D := ⟨x.1.1, x.1.2, x.2⟩
theorem INC.op {P : Nat → Prop} {c s pa' : Nat} {gp' : Int → Option Nat} {E : Int → Int} (x : INC w o bu r bf f sa pa gs gp T L h D cm sc tx bl le Hs H1 g) (k : KF h h1 P c s) (hP : ∀ q, P q → MS f gp (D 3) q) (hF : FLD h1 (fun q => LB o bu r bf h q ∨ FR h h1 q) f sa pa' gs gp' T E) (hX : FX E) (hm : ∀ q, MS f gp' (E 3) q → MS f gp (D 3) q ∨ h.2.1 ≤ q) : MID w o bu r bf f sa pa' gs gp' T L h1 D cm sc tx bl le Hs H1 g E := by
  obtain ⟨a, b, ⟨nn, ff, fg, z⟩, e⟩ := x
  obtain ⟨l1, l2, l3⟩ := a.fl k hP hF hm
  have ok : OKP o bu f gp (D 3) P := fun q z => Or.inr (Or.inr (hP q z))
  exact ⟨l1, ⟨l2, hX, l3⟩, b.kf k ok hm, ⟨nn, ff, fg, (e.fr k ok).trans z⟩, e.up k.2.1.1 hm⟩
/-- a round's end: a change, or none -/
def RES (w : am_w) (o bu r bf f sa : Nat) (gs : Int → Option Nat) (T : Option Nat) (L : GL) (h : AH) (D cm : Int → Int) (sc : Nat) (tx : Int → Int) (bl le : Int) (Hs H1 : List GE) (g : Nat) (ch : Int) : Prop := ∃ E cm' Hs' pa gp, INV w o bu r bf f sa pa gs gp T L h E cm' sc tx bl le Hs' H1 ∧ (CPO o bu r bf f gp (E 3) T L h g (D, cm, sc, L) ∧ am_ob h g 8 ∧ LBM o bu r bf f gp (E 3) h g) ∧ ((ch = 1 ∧ Hs' = (D, cm, sc, L) :: Hs.take 7) ∨ (ch = 0 ∧ Hs' = Hs))
theorem MID.go {E cm' : Int → Int} (x : MID w o bu r bf f sa pa gs gp T L h D cm sc tx bl le Hs H1 g E) (C : CCS h1 o (o + 1) (o + 2) (o + 26) (o + 50) (o + 52) (o + 59) (o + 62) E cm' sc L tx bl le ((D, cm, sc, L) :: Hs.take 7)) (k : am_go 0 h h1 o) : RES w o bu r bf f sa gs T L h1 D cm sc tx bl le Hs H1 g 1 := by
  obtain ⟨xL, ⟨xF, xX, xO⟩, c, ⟨nn, ff, fg, z⟩, e⟩ := x
  have ok : OKP o bu f gp (E 3) (fun q => o ≤ q ∧ q < o + 256) := fun q z => Or.inl z
  exact ⟨E, cm', _, pa, gp, INV.go xL xF xX xO C k ⟨xL.2.2.2.1, fun e he => (List.mem_cons.mp he).elim (fun z => by rw [z]; exact xL.2.2.2.1) (fun z => xL.2.2.2.2 e (List.mem_of_mem_take z))⟩, ⟨c.kf k.kf ok (fun q m => Or.inl m), ⟨nn, ff, fg, (e.fr k.kf ok).trans z⟩, e.up k.1.1 (fun q m => Or.inl m)⟩, Or.inl ⟨rfl, rfl⟩⟩
theorem RES.no (x : INC w o bu r bf f sa pa gs gp T L h D cm sc tx bl le Hs H1 g) : RES w o bu r bf f sa gs T L (gm_thr h) D cm sc tx bl le Hs H1 g 0 := by
  have y := x.kn gm_thr_kf
  exact ⟨D, cm, Hs, pa, gp, y.1, y.2, Or.inr ⟨rfl, rfl⟩⟩
theorem gx_ok {S : Prop} {A : Int ⊕ Nat → Prop} {z : Int} (hA : ∀ k, ¬ A (.inr k)) (e : S ∨ ∃ k, (A (.inr k) ∧ h1 = gm_thr h) ∧ z = gx_thr k) : S := e.elim id fun ⟨k, a, _⟩ => absurd a.1 (hA k)
theorem gx_th {S : Prop} {A : Int ⊕ Nat → Prop} {z : Int} {k0 : Nat} (hS : ¬ S) (hA : ∀ k, A (.inr k) → k = k0) (e : S ∨ ∃ k, (A (.inr k) ∧ h1 = gm_thr h) ∧ z = gx_thr k) : z = gx_thr k0 ∧ h1 = gm_thr h := by
  rcases e with s | ⟨k, a, b⟩
  · exact absurd s hS
  · rw [hA k a.1] at b; exact ⟨b, a.2⟩
end MIDS
theorem gm_sma_ex (D : Int → Int) (x y : Int) : ∀ m : Nat, ∃ z, gm_sma D x y m z
  | 0 => ⟨-1, rfl⟩
  | m + 1 => by
    obtain ⟨b, hb⟩ := gm_sma_ex D x y m
    by_cases q : gm_sP D x y b m
    · exact ⟨m, b, hb, Or.inl ⟨q, rfl⟩⟩
    · exact ⟨b, b, hb, Or.inr ⟨q, rfl⟩⟩
theorem CMS.ex {D : Int → Int} (h3 : D 3 ≤ 6) : ∃ cm, CMS D cm := by
  have h : ∀ k, ∃ z, gm_sma D (sX D k) (sY D k) (D 3).toNat z := fun k => gm_sma_ex _ _ _ _
  exact ⟨fun k => (h k).choose, fun k k0 k1 => ⟨(h k).choose_spec, (gm_sma_r (h k).choose_spec).1, Int.lt_of_lt_of_le (gm_sma_r (h k).choose_spec).2 (by omega)⟩⟩
theorem CMS.one {D cm cm' : Int → Int} (a : CMS D cm) (b : CMS D cm') {k : Int} (k0 : 0 ≤ k) (k1 : k < D 2) : cm k = cm' k := gm_sma_one (a k k0 k1).1 (b k k0 k1).1
theorem gx_nf {D cm : Int → Int} (d : 0 ≤ D 2 ∧ D 2 ≤ 20) : -20 ≤ gm_sm (gm_nf cm) (D 2).toNat ∧ gm_sm (gm_nf cm) (D 2).toNat ≤ 20 := by
  have := gm_sm_le (f := gm_nf cm) (B := 1) (m := (D 2).toNat) (fun k _ _ => by unfold gm_nf; split <;> omega)
  omega
theorem gx_if {D cm : Int → Int} {p : Int} (d : 0 ≤ D 2 ∧ D 2 ≤ 20) : -20 ≤ gm_sm (gm_if cm p (fun _ => 1)) (D 2).toNat ∧ gm_sm (gm_if cm p (fun _ => 1)) (D 2).toNat ≤ 20 := by
  have := gm_sm_le (f := gm_if cm p (fun _ => 1)) (B := 1) (m := (D 2).toNat) (fun k _ _ => by unfold gm_if; split; exact (show -1 ≤ (1 : Int) ∧ (1 : Int) ≤ 1 by omega); omega)
  omega
theorem gm_in_xy {p x y j : Int} {xs ys : Int → Int} {cf : Int → Int} {n : Int} (hx : ∀ k, 0 ≤ k → k < n → cf k = 100 * xs k + ys k) (p0 : 0 ≤ p) (p1 : p ≤ n) (j0 : 0 ≤ j) (j1 : j < n + 1) : gm_in p (100 * x + y) cf j = 100 * gm_in p x xs j + gm_in p y ys j := by
  unfold gm_in
  split
  · exact hx j j0 (by omega)
  · split
    · rfl
    · exact hx _ (by omega) (by omega)
theorem gm_ou_xy {p j : Int} {xs ys : Int → Int} {cf : Int → Int} {n : Int} (hx : ∀ k, 0 ≤ k → k < n → cf k = 100 * xs k + ys k) (j0 : 0 ≤ j) (j1 : j < n - 1) (p0 : 0 ≤ p) : gm_ou p cf j = 100 * gm_ou p xs j + gm_ou p ys j := by
  unfold gm_ou
  split
  · exact hx j j0 (by omega)
  · exact hx _ (by omega) (by omega)

set_option maxRecDepth 4000 in
set_option maxHeartbeats 4000000 in
theorem sg_S1 {nm : String} {TT : List (Nat × Nat × Nat × Nat)} {w : am_w} {d b0 : Nat} {i9 dn n : Int} {Q : RV → AH → Prop} {h : AH} {o bu r bf f sa pa : Nat} {gs gp : Int → Option Nat} {T : Option Nat} {L : GL} {D cm : Int → Int} {sc : Nat} {tx : Int → Int} {bl le : Int} {Hs H1 : List GE} {g9 shq : Nat} {pl p x y : Int} (hd : 90 ≤ d) (hI : INC w o bu r bf f sa pa gs gp T L h D cm sc tx bl le Hs H1 g9) (kk : ∀ (pc : Nat) (h1 : AH), pc ∈ [452, 611, 680, 805, 912, 989] → INC w o bu r bf f sa pa gs gp T L h1 D cm sc tx bl le Hs H1 g9 → (h1.2.1 ≤ h.2.1 + 0 ∧ h1.2.2 ≤ h.2.2 + 0) → AQ w (mL nm TT) d pc [(0, vr b0), (1, vi 1), (2, vi i9), (3, vr o), (4, vr bu), (5, vr r), (6, vr f), (7, vr bf), (8, vi dn), (9, vi n), (10, vr g9), (11, vi 1), (12, vi (-2000000097)), (13, vi (D 3)), (14, vi p), (15, vi x), (16, vi y), (17, vi 1), (18, vi (pN D p)), (19, vi pl), (20, vr shq)] [] h1 Q)  : AQ w (mL nm TT) d 405 [(0, vr b0), (1, vi 1), (2, vi i9), (3, vr o), (4, vr bu), (5, vr r), (6, vr f), (7, vr bf), (8, vi dn), (9, vi n), (10, vr g9), (11, vi 1), (12, vi (-2000000097)), (13, vi (D 3)), (14, vi p), (15, vi x), (16, vi y), (17, vi 1), (18, vi (pN D p)), (19, vi pl), (20, vr shq)] [] h Q := by
  have hD := hI.1.2.2.1.1
  have d0 := hD.1
  have d1 := hD.2.1
  have d2 := hD.2.2.1
  have d3 := hD.2.2.2.1
  refine q_blk (lv2 := [(0, vr b0), (1, vi 1), (2, vi i9), (3, vr o), (4, vr bu), (5, vr r), (6, vr f), (7, vr bf), (8, vi dn), (9, vi n), (10, vr g9), (11, vi 1), (12, vi (-2000000097)), (13, vi (D 3)), (14, vi p), (15, vi x), (16, vi y), (17, vi 1), (18, vi (pN D p)), (19, vi pl), (20, vr shq)]) (st2 := [vi 9, vr r]) kL_law_405 rfl ?_
  refine AQ.callVi (av := [vi 9]) (st := []) (c_X11_below hI.1.2.2.2.1.1 hI.1.2.2.2.1.2.1.2.1 (b := 9) (by omega) (by omega)) lk_RL_132 (by omega) rfl rfl hI.1.2.2.2.1.1.ob ⟨_, rfl, rfl⟩ (Nat.le_of_ble_eq_true rfl) eL_law_409 (fun z1 h3 e2 => ?_)
  obtain ⟨⟨z1a, z1b⟩, g4r, g4k⟩ := e2
  have g4i := hI.kr g4k g4r
  obtain ⟨-, ⟨g4a, g4b⟩, g4y, g4z⟩ := id g4k
  rcases (show z1 = 0 ∨ z1 = 1 ∨ z1 = 2 ∨ z1 = 3 ∨ z1 = 4 ∨ z1 = 5 ∨ (z1 < 0 ∨ 5 < z1) by omega) with sw5 | sw5 | sw5 | sw5 | sw5 | sw5 | sw5
  · skip
    refine AQ.of (AS.tabIn (z := z1) (off := 40) (tgt := 452) eL_law_412 (by first | assumption | exact ⟨by omega, by omega⟩ | exact ⟨by decide, by decide⟩) (by omega) (by omega) (by rw [sw5]; rfl) (by decide)) ?_
    exact kk 452 h3 (by decide) g4i ⟨by omega, by omega⟩
  · skip
    refine AQ.of (AS.tabIn (z := z1) (off := 40) (tgt := 452) eL_law_412 (by first | assumption | exact ⟨by omega, by omega⟩ | exact ⟨by decide, by decide⟩) (by omega) (by omega) (by rw [sw5]; rfl) (by decide)) ?_
    exact kk 452 h3 (by decide) g4i ⟨by omega, by omega⟩
  · skip
    refine AQ.of (AS.tabIn (z := z1) (off := 199) (tgt := 611) eL_law_412 (by first | assumption | exact ⟨by omega, by omega⟩ | exact ⟨by decide, by decide⟩) (by omega) (by omega) (by rw [sw5]; rfl) (by decide)) ?_
    exact kk 611 h3 (by decide) g4i ⟨by omega, by omega⟩
  · skip
    refine AQ.of (AS.tabIn (z := z1) (off := 268) (tgt := 680) eL_law_412 (by first | assumption | exact ⟨by omega, by omega⟩ | exact ⟨by decide, by decide⟩) (by omega) (by omega) (by rw [sw5]; rfl) (by decide)) ?_
    exact kk 680 h3 (by decide) g4i ⟨by omega, by omega⟩
  · skip
    refine AQ.of (AS.tabIn (z := z1) (off := 393) (tgt := 805) eL_law_412 (by first | assumption | exact ⟨by omega, by omega⟩ | exact ⟨by decide, by decide⟩) (by omega) (by omega) (by rw [sw5]; rfl) (by decide)) ?_
    exact kk 805 h3 (by decide) g4i ⟨by omega, by omega⟩
  · skip
    refine AQ.of (AS.tabIn (z := z1) (off := 500) (tgt := 912) eL_law_412 (by first | assumption | exact ⟨by omega, by omega⟩ | exact ⟨by decide, by decide⟩) (by omega) (by omega) (by rw [sw5]; rfl) (by decide)) ?_
    exact kk 912 h3 (by decide) g4i ⟨by omega, by omega⟩
  · skip
    refine AQ.of (AS.tabOut (z := z1) (tgt := 989) eL_law_412 (by first | assumption | exact ⟨by omega, by omega⟩ | exact ⟨by decide, by decide⟩) sw5 (by decide)) ?_
    exact kk 989 h3 (by decide) g4i ⟨by omega, by omega⟩

set_option maxRecDepth 4000 in
set_option maxHeartbeats 4000000 in
theorem sg_S0 {nm : String} {TT : List (Nat × Nat × Nat × Nat)} {w : am_w} {d b0 : Nat} {i9 dn n : Int} {Q : RV → AH → Prop} {h : AH} {o bu r bf f sa pa : Nat} {gs gp : Int → Option Nat} {T : Option Nat} {L : GL} {D cm : Int → Int} {sc : Nat} {tx : Int → Int} {bl le : Int} {Hs H1 : List GE} {g9 shq : Nat} {pl p x y : Int} (hd : 90 ≤ d) (hI : INC w o bu r bf f sa pa gs gp T L h D cm sc tx bl le Hs H1 g9) (kk : ∀ (pc : Nat) (h1 : AH), pc ∈ [452, 611, 680, 805, 912, 989] → INC w o bu r bf f sa pa gs gp T L h1 D cm sc tx bl le Hs H1 g9 → (h1.2.1 ≤ h.2.1 + 0 ∧ h1.2.2 ≤ h.2.2 + 0) → AQ w (mL nm TT) d pc [(0, vr b0), (1, vi 1), (2, vi i9), (3, vr o), (4, vr bu), (5, vr r), (6, vr f), (7, vr bf), (8, vi dn), (9, vi n), (10, vr g9), (11, vi 1), (12, vi (-2000000097)), (13, vi (D 3)), (14, vi p), (15, vi x), (16, vi y), (17, vi 0), (18, vi 0), (19, vi pl)] [] h1 Q)  : AQ w (mL nm TT) d 405 [(0, vr b0), (1, vi 1), (2, vi i9), (3, vr o), (4, vr bu), (5, vr r), (6, vr f), (7, vr bf), (8, vi dn), (9, vi n), (10, vr g9), (11, vi 1), (12, vi (-2000000097)), (13, vi (D 3)), (14, vi p), (15, vi x), (16, vi y), (17, vi 0), (18, vi 0), (19, vi pl)] [] h Q := by
  have hD := hI.1.2.2.1.1
  have d0 := hD.1
  have d1 := hD.2.1
  have d2 := hD.2.2.1
  have d3 := hD.2.2.2.1
  refine q_blk (lv2 := [(0, vr b0), (1, vi 1), (2, vi i9), (3, vr o), (4, vr bu), (5, vr r), (6, vr f), (7, vr bf), (8, vi dn), (9, vi n), (10, vr g9), (11, vi 1), (12, vi (-2000000097)), (13, vi (D 3)), (14, vi p), (15, vi x), (16, vi y), (17, vi 0), (18, vi 0), (19, vi pl)]) (st2 := [vi 9, vr r]) kL_law_405 rfl ?_
  refine AQ.callVi (av := [vi 9]) (st := []) (c_X11_below hI.1.2.2.2.1.1 hI.1.2.2.2.1.2.1.2.1 (b := 9) (by omega) (by omega)) lk_RL_132 (by omega) rfl rfl hI.1.2.2.2.1.1.ob ⟨_, rfl, rfl⟩ (Nat.le_of_ble_eq_true rfl) eL_law_409 (fun z1 h3 e2 => ?_)
  obtain ⟨⟨z1a, z1b⟩, g4r, g4k⟩ := e2
  have g4i := hI.kr g4k g4r
  obtain ⟨-, ⟨g4a, g4b⟩, g4y, g4z⟩ := id g4k
  rcases (show z1 = 0 ∨ z1 = 1 ∨ z1 = 2 ∨ z1 = 3 ∨ z1 = 4 ∨ z1 = 5 ∨ (z1 < 0 ∨ 5 < z1) by omega) with sw5 | sw5 | sw5 | sw5 | sw5 | sw5 | sw5
  · skip
    refine AQ.of (AS.tabIn (z := z1) (off := 40) (tgt := 452) eL_law_412 (by first | assumption | exact ⟨by omega, by omega⟩ | exact ⟨by decide, by decide⟩) (by omega) (by omega) (by rw [sw5]; rfl) (by decide)) ?_
    exact kk 452 h3 (by decide) g4i ⟨by omega, by omega⟩
  · skip
    refine AQ.of (AS.tabIn (z := z1) (off := 40) (tgt := 452) eL_law_412 (by first | assumption | exact ⟨by omega, by omega⟩ | exact ⟨by decide, by decide⟩) (by omega) (by omega) (by rw [sw5]; rfl) (by decide)) ?_
    exact kk 452 h3 (by decide) g4i ⟨by omega, by omega⟩
  · skip
    refine AQ.of (AS.tabIn (z := z1) (off := 199) (tgt := 611) eL_law_412 (by first | assumption | exact ⟨by omega, by omega⟩ | exact ⟨by decide, by decide⟩) (by omega) (by omega) (by rw [sw5]; rfl) (by decide)) ?_
    exact kk 611 h3 (by decide) g4i ⟨by omega, by omega⟩
  · skip
    refine AQ.of (AS.tabIn (z := z1) (off := 268) (tgt := 680) eL_law_412 (by first | assumption | exact ⟨by omega, by omega⟩ | exact ⟨by decide, by decide⟩) (by omega) (by omega) (by rw [sw5]; rfl) (by decide)) ?_
    exact kk 680 h3 (by decide) g4i ⟨by omega, by omega⟩
  · skip
    refine AQ.of (AS.tabIn (z := z1) (off := 393) (tgt := 805) eL_law_412 (by first | assumption | exact ⟨by omega, by omega⟩ | exact ⟨by decide, by decide⟩) (by omega) (by omega) (by rw [sw5]; rfl) (by decide)) ?_
    exact kk 805 h3 (by decide) g4i ⟨by omega, by omega⟩
  · skip
    refine AQ.of (AS.tabIn (z := z1) (off := 500) (tgt := 912) eL_law_412 (by first | assumption | exact ⟨by omega, by omega⟩ | exact ⟨by decide, by decide⟩) (by omega) (by omega) (by rw [sw5]; rfl) (by decide)) ?_
    exact kk 912 h3 (by decide) g4i ⟨by omega, by omega⟩
  · skip
    refine AQ.of (AS.tabOut (z := z1) (tgt := 989) eL_law_412 (by first | assumption | exact ⟨by omega, by omega⟩ | exact ⟨by decide, by decide⟩) sw5 (by decide)) ?_
    exact kk 989 h3 (by decide) g4i ⟨by omega, by omega⟩

set_option maxRecDepth 4000 in
set_option maxHeartbeats 8000000 in
theorem sg_cor1 {nm : String} {TT : List (Nat × Nat × Nat × Nat)} {w : am_w} {d b0 : Nat} {i9 dn n : Int} {Q : RV → AH → Prop} {h : AH} {o bu r bf f sa pa : Nat} {gs gp : Int → Option Nat} {T : Option Nat} {L : GL} {D cm : Int → Int} {sc : Nat} {tx : Int → Int} {bl le : Int} {Hs H1 : List GE} {g9 shq : Nat} {pl p x y : Int} (hd : 90 ≤ d) (hsq : gp p = some shq) (hI : INC w o bu r bf f sa pa gs gp T L h D cm sc tx bl le Hs H1 g9) (hp : 0 ≤ p ∧ p < D 3) (hpl : 0 ≤ pl ∧ pl ≤ pN D p) (hxx : 0 ≤ x ∧ x ≤ D 0) (hyy : 0 ≤ y ∧ y ≤ D 1) (kk : ∀ (ch : Int) (h1 : AH), RES w o bu r bf f sa gs T L h1 D cm sc tx bl le Hs H1 g9 ch → (h1.2.1 ≤ h.2.1 + 16 ∧ h1.2.2 ≤ h.2.2 + 40) → AQ w (mL nm TT) d 1123 [(0, vr b0), (1, vi 1), (2, vi i9), (3, vr o), (4, vr bu), (5, vr r), (6, vr f), (7, vr bf), (8, vi dn), (9, vi n), (10, vr g9), (11, vi ch)] [] h1 Q)  : AQ w (mL nm TT) d 989 [(0, vr b0), (1, vi 1), (2, vi i9), (3, vr o), (4, vr bu), (5, vr r), (6, vr f), (7, vr bf), (8, vi dn), (9, vi n), (10, vr g9), (11, vi 1), (12, vi (-2000000097)), (13, vi (D 3)), (14, vi p), (15, vi x), (16, vi y), (17, vi 1), (18, vi (pN D p)), (19, vi pl), (20, vr shq)] [] h Q := by
  have hD := hI.1.2.2.1.1
  have d0 := hD.1
  have d1 := hD.2.1
  have d2 := hD.2.2.1
  have d3 := hD.2.2.2.1
  have vcp := hD.vc (p := p) (by omega) (by omega)
  obtain ⟨op1, ⟨np1, np2⟩, cp1, -⟩ := hD.2.2.2.2.2 p (by omega) (by omega)
  refine q_blk (lv2 := [(0, vr b0), (1, vi 1), (2, vi i9), (3, vr o), (4, vr bu), (5, vr r), (6, vr f), (7, vr bf), (8, vi dn), (9, vi n), (10, vr g9), (11, vi 1), (12, vi (-2000000097)), (13, vi (D 3)), (14, vi p), (15, vi x), (16, vi y), (17, vi 1), (18, vi (pN D p)), (19, vi pl), (20, vr shq)]) (st2 := [vi 20, vr r]) kL_law_989 rfl ?_
  refine AQ.callVi (av := [vi 20]) (st := []) (c_X11_below hI.1.2.2.2.1.1 hI.1.2.2.2.1.2.1.2.1 (b := 20) (by omega) (by omega)) lk_RL_132 (by omega) rfl rfl hI.1.2.2.2.1.1.ob ⟨_, rfl, rfl⟩ (Nat.le_of_ble_eq_true rfl) eL_law_993 (fun z1 h3 e2 => ?_)
  obtain ⟨⟨z1a, z1b⟩, g4r, g4k⟩ := e2
  have g4i := hI.kr g4k g4r
  obtain ⟨-, ⟨g4a, g4b⟩, g4y, g4z⟩ := id g4k
  have jn1008 : ∀ (x2 : Int), (0 ≤ x2 ∧ x2 ≤ D 0 + 1) → AQ w (mL nm TT) d 1008 [(0, vr b0), (1, vi 1), (2, vi i9), (3, vr o), (4, vr bu), (5, vr r), (6, vr f), (7, vr bf), (8, vi dn), (9, vi n), (10, vr g9), (11, vi 1), (12, vi (-2000000097)), (13, vi (D 3)), (14, vi p), (15, vi x2), (16, vi y), (17, vi 1), (18, vi (pN D p)), (19, vi pl), (20, vr shq)] [] h3 (Q) := by
    intro x2 hj
    refine q_blk (lv2 := [(0, vr b0), (1, vi 1), (2, vi i9), (3, vr o), (4, vr bu), (5, vr r), (6, vr f), (7, vr bf), (8, vi dn), (9, vi n), (10, vr g9), (11, vi 1), (12, vi (-2000000097)), (13, vi (D 3)), (14, vi p), (15, vi x2), (16, vi y), (17, vi 1), (18, vi (pN D p)), (19, vi pl), (20, vr shq)]) (st2 := [vi 1]) kL_law_1008 rfl ?_
    refine AQ.of (AS.if_eq_f eL_law_1010 ⟨by decide, by decide⟩ (by decide) (by decide)) ?_
    refine q_blk (lv2 := [(0, vr b0), (1, vi 1), (2, vi i9), (3, vr o), (4, vr bu), (5, vr r), (6, vr f), (7, vr bf), (8, vi dn), (9, vi n), (10, vr g9), (11, vi 1), (12, vi (-2000000097)), (13, vi (D 3)), (14, vi p), (15, vi x2), (16, vi y), (17, vi 1), (18, vi (pN D p)), (19, vi pl), (20, vr shq)]) (st2 := [vr f, vi x2]) kL_law_1013 rfl ?_
    obtain ⟨⟨bf5, bs5, bp5⟩, C05, ⟨fz15, C15⟩, ⟨fz25, C25⟩, hst, hsh, hij⟩ := id g4i.1.2.1
    refine q_gi eL_law_1017 fl_RL_137 (Or.inl rfl) C05 (z := (D 0)) rfl ?_
    refine AQ.ic_gt (tgt := 1027) eL_law_1020 (by decide) (by first | assumption | exact ⟨by omega, by omega⟩ | exact ⟨by decide, by decide⟩) (by first | assumption | exact ⟨by omega, by omega⟩ | exact ⟨by decide, by decide⟩) (fun br6 => ?_) (fun br6 => ?_)
    · skip
      refine q_blk (lv2 := [(0, vr b0), (1, vi 1), (2, vi i9), (3, vr o), (4, vr bu), (5, vr r), (6, vr f), (7, vr bf), (8, vi dn), (9, vi n), (10, vr g9), (11, vi 1), (12, vi (-2000000097)), (13, vi (D 3)), (14, vi p), (15, vi x2), (16, vi y), (17, vi 1), (18, vi (pN D p)), (19, vi pl), (20, vr shq)]) (st2 := [vi 0]) kL_law_1027 rfl ?_
      refine q_blk (lv2 := [(0, vr b0), (1, vi 1), (2, vi i9), (3, vr o), (4, vr bu), (5, vr r), (6, vr f), (7, vr bf), (8, vi dn), (9, vi n), (10, vr g9), (11, vi 0), (12, vi (-2000000097)), (13, vi (D 3)), (14, vi p), (15, vi x2), (16, vi y), (17, vi 1), (18, vi (pN D p)), (19, vi pl), (20, vr shq)]) (st2 := [vi 1]) kL_law_1028 rfl ?_
      refine AQ.of (AS.if_eq_f eL_law_1032 ⟨by decide, by decide⟩ (by decide) (by decide)) ?_
      refine AQ.of (AS.ldc (z := (-2000000098)) eL_law_1035 (show Cond.constant RL 42 (Int32.ofInt (-2000000098)) ∈ GW from am_gw 1022 (by decide +kernel) (by decide +kernel))) ?_
      refine q_blk (lv2 := [(0, vr b0), (1, vi 1), (2, vi i9), (3, vr o), (4, vr bu), (5, vr r), (6, vr f), (7, vr bf), (8, vi dn), (9, vi n), (10, vr g9), (11, vi 0), (12, vi (-2000000098)), (13, vi (D 3)), (14, vi p), (15, vi x2), (16, vi y), (17, vi 1), (18, vi (pN D p)), (19, vi pl), (20, vr shq)]) (st2 := []) kL_law_1037 rfl ?_
      refine q_blk (lv2 := [(0, vr b0), (1, vi 1), (2, vi i9), (3, vr o), (4, vr bu), (5, vr r), (6, vr f), (7, vr bf), (8, vi dn), (9, vi n), (10, vr g9), (11, vi 0), (12, vi (-2000000098)), (13, vi (D 3)), (14, vi p), (15, vi x2), (16, vi y), (17, vi 1), (18, vi (pN D p)), (19, vi pl), (20, vr shq)]) (st2 := [vi 0]) kL_law_1039 rfl ?_
      refine AQ.of (AS.if_eq_t (tgt := 1102) eL_law_1041 (by decide) ⟨by decide, by decide⟩ (by decide)) ?_
      refine q_blk (lv2 := [(0, vr b0), (1, vi 1), (2, vi i9), (3, vr o), (4, vr bu), (5, vr r), (6, vr f), (7, vr bf), (8, vi dn), (9, vi n), (10, vr g9), (11, vi 0), (12, vi (-2000000098)), (13, vi (D 3)), (14, vi p), (15, vi x2), (16, vi y), (17, vi 1), (18, vi (pN D p)), (19, vi pl), (20, vr shq)]) (st2 := [vi y, vi x2, vi p, vr o]) kL_law_1102 rfl ?_
      refine AQ.callWi (av := [vr o, vi p, vi x2, vi y]) (st := []) (c_L_corner (c_X8_corner (MID.inc g4i).1.1 ⟨by omega, by omega⟩ ⟨by omega, by omega⟩ ⟨by omega, by omega⟩) (MID.inc g4i).1.1.ob (fun k h1 q => by rcases q.1 with ⟨_, e⟩ | ⟨_, (⟨_, e⟩ | ⟨_, e⟩)⟩ <;> first | (cases e; first | exact Or.inl rfl | exact Or.inr rfl) | exact e.elim)) lkw_L_corner (by omega) rfl rfl (Nat.le_of_ble_eq_true rfl) eL_law_1109 (fun z7 h9 e8 => ?_)
      obtain ⟨z7e, z7h⟩ := gx_th (k0 := 0) (fun q => by have := q.1; omega) (fun k q => by rcases q with ⟨a, e⟩ | ⟨_, (⟨a, e⟩ | ⟨a, e⟩)⟩ <;> first | (cases e; first | rfl | omega) | exact e.elim) e8
      subst z7h
      obtain rfl : z7 = (-2000000098) := z7e
      have z7t : (gm_thr h3).2.1 = h3.2.1 + 1 := rfl
      have z7s : (gm_thr h3).2.2 = h3.2.2 + 6 := rfl
      refine q_blk (lv2 := [(0, vr b0), (1, vi 1), (2, vi i9), (3, vr o), (4, vr bu), (5, vr r), (6, vr f), (7, vr bf), (8, vi dn), (9, vi n), (10, vr g9), (11, vi 0), (12, vi (-2000000098)), (13, vi (D 3)), (14, vi p), (15, vi x2), (16, vi y), (17, vi 1), (18, vi (pN D p)), (19, vi pl), (20, vr shq)]) (st2 := [vi (-2000000098), vi (-2000000098)]) kL_law_1112 rfl ?_
      refine AQ.of (AS.ic_ne_f eL_law_1114 ⟨by decide, by decide⟩ ⟨by decide, by decide⟩ rfl (by decide)) ?_
      refine q_blk (lv2 := [(0, vr b0), (1, vi 1), (2, vi i9), (3, vr o), (4, vr bu), (5, vr r), (6, vr f), (7, vr bf), (8, vi dn), (9, vi n), (10, vr g9), (11, vi 0), (12, vi (-2000000098)), (13, vi (D 3)), (14, vi p), (15, vi x2), (16, vi y), (17, vi 1), (18, vi (pN D p)), (19, vi pl), (20, vr shq)]) (st2 := [vi 1]) kL_law_1117 rfl ?_
      refine q_goto (tgt := 1122) eL_law_1118 (by decide) ?_
      refine q_blk (lv2 := [(0, vr b0), (1, vi 1), (2, vi i9), (3, vr o), (4, vr bu), (5, vr r), (6, vr f), (7, vr bf), (8, vi dn), (9, vi n), (10, vr g9), (11, vi 0), (12, vi (-2000000098)), (13, vi (D 3)), (14, vi p), (15, vi x2), (16, vi y), (17, vi 1), (18, vi (pN D p)), (19, vi pl), (20, vr shq)]) (st2 := []) kL_law_1122 rfl ?_
      refine q_sub (lv2 := [(0, vr b0), (1, vi 1), (2, vi i9), (3, vr o), (4, vr bu), (5, vr r), (6, vr f), (7, vr bf), (8, vi dn), (9, vi n), (10, vr g9), (11, vi 0)]) [0, 1, 2, 3, 4, 5, 6, 7, 8, 9, 10, 11] rfl ?_
      exact kk 0 (gm_thr h3) (RES.no g4i) ⟨by omega, by omega⟩
    · skip
      refine q_blk (lv2 := [(0, vr b0), (1, vi 1), (2, vi i9), (3, vr o), (4, vr bu), (5, vr r), (6, vr f), (7, vr bf), (8, vi dn), (9, vi n), (10, vr g9), (11, vi 1), (12, vi (-2000000097)), (13, vi (D 3)), (14, vi p), (15, vi x2), (16, vi y), (17, vi 1), (18, vi (pN D p)), (19, vi pl), (20, vr shq)]) (st2 := [vi 1]) kL_law_1023 rfl ?_
      refine q_goto (tgt := 1028) eL_law_1024 (by decide) ?_
      refine q_blk (lv2 := [(0, vr b0), (1, vi 1), (2, vi i9), (3, vr o), (4, vr bu), (5, vr r), (6, vr f), (7, vr bf), (8, vi dn), (9, vi n), (10, vr g9), (11, vi 1), (12, vi (-2000000097)), (13, vi (D 3)), (14, vi p), (15, vi x2), (16, vi y), (17, vi 1), (18, vi (pN D p)), (19, vi pl), (20, vr shq)]) (st2 := [vi 1]) kL_law_1028 rfl ?_
      refine AQ.of (AS.if_eq_f eL_law_1032 ⟨by decide, by decide⟩ (by decide) (by decide)) ?_
      refine AQ.of (AS.ldc (z := (-2000000098)) eL_law_1035 (show Cond.constant RL 42 (Int32.ofInt (-2000000098)) ∈ GW from am_gw 1022 (by decide +kernel) (by decide +kernel))) ?_
      refine q_blk (lv2 := [(0, vr b0), (1, vi 1), (2, vi i9), (3, vr o), (4, vr bu), (5, vr r), (6, vr f), (7, vr bf), (8, vi dn), (9, vi n), (10, vr g9), (11, vi 1), (12, vi (-2000000098)), (13, vi (D 3)), (14, vi p), (15, vi x2), (16, vi y), (17, vi 1), (18, vi (pN D p)), (19, vi pl), (20, vr shq)]) (st2 := []) kL_law_1037 rfl ?_
      refine q_blk (lv2 := [(0, vr b0), (1, vi 1), (2, vi i9), (3, vr o), (4, vr bu), (5, vr r), (6, vr f), (7, vr bf), (8, vi dn), (9, vi n), (10, vr g9), (11, vi 1), (12, vi (-2000000098)), (13, vi (D 3)), (14, vi p), (15, vi x2), (16, vi y), (17, vi 1), (18, vi (pN D p)), (19, vi pl), (20, vr shq)]) (st2 := [vi 1]) kL_law_1039 rfl ?_
      refine AQ.of (AS.if_eq_f eL_law_1041 ⟨by decide, by decide⟩ (by decide) (by decide)) ?_
      refine q_blk (lv2 := [(0, vr b0), (1, vi 1), (2, vi i9), (3, vr o), (4, vr bu), (5, vr r), (6, vr f), (7, vr bf), (8, vi dn), (9, vi n), (10, vr g9), (11, vi 1), (12, vi (-2000000098)), (13, vi (D 3)), (14, vi p), (15, vi x2), (16, vi y), (17, vi 1), (18, vi (pN D p)), (19, vi pl), (20, vr shq)]) (st2 := [vi y, vi x2, vi p, vr f]) kL_law_1044 rfl ?_
      refine q_Vi (av := [vi p, vi x2, vi y]) (st := []) (c_X9_corner g4i.1.2.1 g4i.1.2.2.1.1 g4i.1.2.2.1.2.1 (p := p) (by omega) (by omega) (x := x2) (y := y) ⟨by omega, by omega⟩ ⟨by omega, by omega⟩) lk_RL_177 (by omega) rfl rfl g4i.1.2.1.ob ⟨_, rfl, rfl⟩ (Nat.le_of_ble_eq_true rfl) eL_law_1052 (fun z10 e11 => ?_)
      have z10r := gm_rC_0r e11
      have z10n : z10 ≠ 0 ∨ pN D p < 12 := by rcases e11 with ⟨a, b⟩ | ⟨a, ⟨b, c⟩ | ⟨b, c⟩⟩ <;> omega
      refine q_blk (lv2 := [(0, vr b0), (1, vi 1), (2, vi i9), (3, vr o), (4, vr bu), (5, vr r), (6, vr f), (7, vr bf), (8, vi dn), (9, vi n), (10, vr g9), (11, vi 1), (12, vi (-2000000098)), (13, vi (D 3)), (14, vi p), (15, vi x2), (16, vi y), (17, vi 1), (18, vi (pN D p)), (19, vi pl), (20, vr shq), (22, vi z10)]) (st2 := [vi z10]) kL_law_1055 rfl ?_
      refine AQ.if_ne (tgt := 1085) eL_law_1059 (by decide) (by first | assumption | exact ⟨by omega, by omega⟩ | exact ⟨by decide, by decide⟩) (fun br12 => ?_) (fun br12 => ?_)
      · skip
        refine q_blk (lv2 := [(0, vr b0), (1, vi 1), (2, vi i9), (3, vr o), (4, vr bu), (5, vr r), (6, vr f), (7, vr bf), (8, vi dn), (9, vi n), (10, vr g9), (11, vi 1), (12, vi (-2000000098)), (13, vi (D 3)), (14, vi p), (15, vi x2), (16, vi y), (17, vi 1), (18, vi (pN D p)), (19, vi pl), (20, vr shq), (22, vi z10)]) (st2 := [vi z10]) kL_law_1085 rfl ?_
        refine AQ.of (AS.if_le_f eL_law_1087 (by first | assumption | exact ⟨by omega, by omega⟩ | exact ⟨by decide, by decide⟩) (by omega) (by decide)) ?_
        refine q_blk (lv2 := [(0, vr b0), (1, vi 1), (2, vi i9), (3, vr o), (4, vr bu), (5, vr r), (6, vr f), (7, vr bf), (8, vi dn), (9, vi n), (10, vr g9), (11, vi 1), (12, vi (-2000000098)), (13, vi (D 3)), (14, vi p), (15, vi x2), (16, vi y), (17, vi 1), (18, vi (pN D p)), (19, vi pl), (20, vr shq), (22, vi z10)]) (st2 := [vi (-z10)]) kL_law_1090 rfl ?_
        refine q_goto (tgt := 1100) eL_law_1093 (by decide) ?_
        refine q_blk (lv2 := [(0, vr b0), (1, vi 1), (2, vi i9), (3, vr o), (4, vr bu), (5, vr r), (6, vr f), (7, vr bf), (8, vi dn), (9, vi n), (10, vr g9), (11, vi 1), (12, vi (-z10)), (13, vi (D 3)), (14, vi p), (15, vi x2), (16, vi y), (17, vi 1), (18, vi (pN D p)), (19, vi pl), (20, vr shq), (22, vi z10)]) (st2 := []) kL_law_1100 rfl ?_
        refine q_blk (lv2 := [(0, vr b0), (1, vi 1), (2, vi i9), (3, vr o), (4, vr bu), (5, vr r), (6, vr f), (7, vr bf), (8, vi dn), (9, vi n), (10, vr g9), (11, vi 1), (12, vi (-z10)), (13, vi (D 3)), (14, vi p), (15, vi x2), (16, vi y), (17, vi 1), (18, vi (pN D p)), (19, vi pl), (20, vr shq), (22, vi z10)]) (st2 := [vi y, vi x2, vi p, vr o]) kL_law_1102 rfl ?_
        refine AQ.callWi (av := [vr o, vi p, vi x2, vi y]) (st := []) (c_L_corner (c_X8_corner (MID.inc g4i).1.1 ⟨by omega, by omega⟩ ⟨by omega, by omega⟩ ⟨by omega, by omega⟩) (MID.inc g4i).1.1.ob (fun k h1 q => by rcases q.1 with ⟨_, e⟩ | ⟨_, (⟨_, e⟩ | ⟨_, e⟩)⟩ <;> first | (cases e; first | exact Or.inl rfl | exact Or.inr rfl) | exact e.elim)) lkw_L_corner (by omega) rfl rfl (Nat.le_of_ble_eq_true rfl) eL_law_1109 (fun z13 h15 e14 => ?_)
        obtain ⟨-, D9, cm9, z13g, z13c, z13k⟩ := gx_ok (fun k q => by rcases q with ⟨a, e⟩ | ⟨_, (⟨a, e⟩ | ⟨a, e⟩)⟩ <;> first | omega | exact e.elim) e14
        obtain ⟨q9, q9r, q9c⟩ := z13g
        obtain rfl := (gm_rC_u q9r e11).symm
        obtain ⟨-, z13e, z13D⟩ := q9c.resolve_right (fun z => by have := z.1; omega)
        obtain rfl := z13D.symm
        obtain rfl : z13 = (-z10) := z13e
        have z13R := (MID.inc g4i).go z13c z13k
        obtain ⟨⟨z131, z132, z133, z134⟩, -⟩ := z13k
        refine q_blk (lv2 := [(0, vr b0), (1, vi 1), (2, vi i9), (3, vr o), (4, vr bu), (5, vr r), (6, vr f), (7, vr bf), (8, vi dn), (9, vi n), (10, vr g9), (11, vi 1), (12, vi (-z10)), (13, vi (D 3)), (14, vi p), (15, vi x2), (16, vi y), (17, vi 1), (18, vi (pN D p)), (19, vi pl), (20, vr shq), (22, vi z10)]) (st2 := [vi (-z10), vi (-z10)]) kL_law_1112 rfl ?_
        refine AQ.of (AS.ic_ne_f eL_law_1114 (by first | assumption | exact ⟨by omega, by omega⟩ | exact ⟨by decide, by decide⟩) (by first | assumption | exact ⟨by omega, by omega⟩ | exact ⟨by decide, by decide⟩) rfl (by decide)) ?_
        refine q_blk (lv2 := [(0, vr b0), (1, vi 1), (2, vi i9), (3, vr o), (4, vr bu), (5, vr r), (6, vr f), (7, vr bf), (8, vi dn), (9, vi n), (10, vr g9), (11, vi 1), (12, vi (-z10)), (13, vi (D 3)), (14, vi p), (15, vi x2), (16, vi y), (17, vi 1), (18, vi (pN D p)), (19, vi pl), (20, vr shq), (22, vi z10)]) (st2 := [vi 1]) kL_law_1117 rfl ?_
        refine q_goto (tgt := 1122) eL_law_1118 (by decide) ?_
        refine q_blk (lv2 := [(0, vr b0), (1, vi 1), (2, vi i9), (3, vr o), (4, vr bu), (5, vr r), (6, vr f), (7, vr bf), (8, vi dn), (9, vi n), (10, vr g9), (11, vi 1), (12, vi (-z10)), (13, vi (D 3)), (14, vi p), (15, vi x2), (16, vi y), (17, vi 1), (18, vi (pN D p)), (19, vi pl), (20, vr shq), (22, vi z10)]) (st2 := []) kL_law_1122 rfl ?_
        refine q_sub (lv2 := [(0, vr b0), (1, vi 1), (2, vi i9), (3, vr o), (4, vr bu), (5, vr r), (6, vr f), (7, vr bf), (8, vi dn), (9, vi n), (10, vr g9), (11, vi 1)]) [0, 1, 2, 3, 4, 5, 6, 7, 8, 9, 10, 11] rfl ?_
        exact kk 1 h15 z13R ⟨by omega, by omega⟩
      · skip
        refine q_blk (lv2 := [(0, vr b0), (1, vi 1), (2, vi i9), (3, vr o), (4, vr bu), (5, vr r), (6, vr f), (7, vr bf), (8, vi dn), (9, vi n), (10, vr g9), (11, vi 1), (12, vi (-2000000098)), (13, vi (D 3)), (14, vi p), (15, vi x2), (16, vi y), (17, vi 1), (18, vi (pN D p)), (19, vi pl), (20, vr shq), (22, vi z10)]) (st2 := [vr shq, vr shq]) kL_law_1062 rfl ?_
        obtain ⟨q16, g16, l16⟩ := hsh p (by omega) (by omega)
        rw [hsq] at g16; obtain rfl := Option.some.inj g16
        obtain ⟨ca16, cf16, ⟨w16, u16⟩, c16, d16, e16⟩ := id l16
        have hsl16 := w16.1.2
        have hcl16 := u16.1.2
        refine q_gr eL_law_1066 fl_RL_178 (Or.inr ⟨_, rfl⟩) c16 rfl ?_
        refine q_blk (lv2 := [(0, vr b0), (1, vi 1), (2, vi i9), (3, vr o), (4, vr bu), (5, vr r), (6, vr f), (7, vr bf), (8, vi dn), (9, vi n), (10, vr g9), (11, vi 1), (12, vi (-2000000098)), (13, vi (D 3)), (14, vi p), (15, vi x2), (16, vi y), (17, vi 1), (18, vi (pN D p)), (19, vi pl), (20, vr shq), (22, vi z10)]) (st2 := [vi ((100 * x2) + y), vi (pN D p), vr ca16, vr shq]) kL_law_1069 rfl ?_
        refine AQ.callSr (av := [vr ca16, vi (pN D p), vi ((100 * x2) + y)]) (st := [vr shq]) (c_L_put_ d16 hcl16 ⟨by omega, by omega⟩ ⟨by omega, by omega⟩ (by omega)) lk_RL_183 (by omega) rfl rfl (Nat.le_of_ble_eq_true rfl) eL_law_1079 (fun z17 h19 e18 => ?_)
        obtain ⟨⟨g20a, g20b⟩, ⟨g20n, g20c, g20e⟩, g20k⟩ := e18
        obtain ⟨-, ⟨g20u, g20v⟩, g20y, g20z⟩ := id g20k
        have g20l := hsl16
        have g20q := (g20k.1 shq g20l id).trans c16
        refine q_pr eL_law_1082 fl_RL_178 (fun q hq => by cases hq; exact Or.inl rfl) (Or.inr ⟨_, rfl⟩) g20q (Nat.le_of_ble_eq_true rfl) (l2 := [none, none, some z17]) rfl (fun h21 e22 => ?_)
        have e22u : h21.2.1 = h19.2.1 := congrArg Prod.fst (am_z e22)
        have e22v : h21.2.2 = h19.2.2 := congrArg Prod.snd (am_z e22)
        have e22F : ∀ q, q < h3.2.1 → q ≠ shq → h21.1 q = h3.1 q := (fun q q0 q1 => (am_ne e22 q q1).trans (g20k.1 q q0 id))
        have e22K : KF h3 h21 (fun q => q = shq) 1 12 := ⟨fun q q0 q1 => e22F q q0 q1, ⟨by omega, by omega⟩, by omega, by omega⟩
        have e22S := FLD.setP g4i.1.2.1 hD (fun q b => b.1.2) (p := p) (n := (pN D p + 1)) (c := pC D p) (xs := (gm_in (pN D p) x2 (pX D p))) (ys := (gm_in (pN D p) y (pY D p))) (by omega) (by omega) hsq e22F (by omega) (am_at e22) ((am_ne e22 z17 (by omega)).trans g20c) (Or.inr ⟨by omega, by omega⟩) (fun j j0 j1 => (g20e j j0 j1).trans (gm_in_xy e16 (by omega) (by omega) j0 j1))
        have e223 : (gm_adC D p x2 y) 3 = D 3 := gm_setP_o (by omega)
        have e22M := g4i.op (E := (gm_adC D p x2 y)) e22K (fun q z => Or.inr ⟨p, by omega, by omega, by rw [show q = shq from z]; exact hsq⟩) e22S (g4i.1.2.2.1.adC (by omega) (by omega) ⟨by omega, by omega⟩ ⟨by omega, by omega⟩ (by have q := e11; rw [show z10 = 0 by omega] at q; exact q)) (fun q m => Or.inl (by rw [e223] at m; exact m))
        refine q_blk (lv2 := [(0, vr b0), (1, vi 1), (2, vi i9), (3, vr o), (4, vr bu), (5, vr r), (6, vr f), (7, vr bf), (8, vi dn), (9, vi n), (10, vr g9), (11, vi 1), (12, vi (-2000000098)), (13, vi (D 3)), (14, vi p), (15, vi x2), (16, vi y), (17, vi 1), (18, vi (pN D p)), (19, vi pl), (20, vr shq), (22, vi z10)]) (st2 := [vi z10]) kL_law_1085 rfl ?_
        refine AQ.of (AS.if_le_t (tgt := 1096) eL_law_1087 (by decide) (by first | assumption | exact ⟨by omega, by omega⟩ | exact ⟨by decide, by decide⟩) (by omega)) ?_
        refine q_blk (lv2 := [(0, vr b0), (1, vi 1), (2, vi i9), (3, vr o), (4, vr bu), (5, vr r), (6, vr f), (7, vr bf), (8, vi dn), (9, vi n), (10, vr g9), (11, vi 1), (12, vi (-2000000098)), (13, vi (D 3)), (14, vi p), (15, vi x2), (16, vi y), (17, vi 1), (18, vi (pN D p)), (19, vi pl), (20, vr shq), (22, vi z10)]) (st2 := [vi ((pN D p) + 1)]) kL_law_1096 rfl ?_
        refine q_blk (lv2 := [(0, vr b0), (1, vi 1), (2, vi i9), (3, vr o), (4, vr bu), (5, vr r), (6, vr f), (7, vr bf), (8, vi dn), (9, vi n), (10, vr g9), (11, vi 1), (12, vi ((pN D p) + 1)), (13, vi (D 3)), (14, vi p), (15, vi x2), (16, vi y), (17, vi 1), (18, vi (pN D p)), (19, vi pl), (20, vr shq), (22, vi z10)]) (st2 := []) kL_law_1100 rfl ?_
        refine q_blk (lv2 := [(0, vr b0), (1, vi 1), (2, vi i9), (3, vr o), (4, vr bu), (5, vr r), (6, vr f), (7, vr bf), (8, vi dn), (9, vi n), (10, vr g9), (11, vi 1), (12, vi ((pN D p) + 1)), (13, vi (D 3)), (14, vi p), (15, vi x2), (16, vi y), (17, vi 1), (18, vi (pN D p)), (19, vi pl), (20, vr shq), (22, vi z10)]) (st2 := [vi y, vi x2, vi p, vr o]) kL_law_1102 rfl ?_
        refine AQ.callWi (av := [vr o, vi p, vi x2, vi y]) (st := []) (c_L_corner (c_X8_corner e22M.1.1 ⟨by omega, by omega⟩ ⟨by omega, by omega⟩ ⟨by omega, by omega⟩) e22M.1.1.ob (fun k h1 q => by rcases q.1 with ⟨_, e⟩ | ⟨_, (⟨_, e⟩ | ⟨_, e⟩)⟩ <;> first | (cases e; first | exact Or.inl rfl | exact Or.inr rfl) | exact e.elim)) lkw_L_corner (by omega) rfl rfl (Nat.le_of_ble_eq_true rfl) eL_law_1109 (fun z23 h25 e24 => ?_)
        obtain ⟨-, D9, cm9, z23g, z23c, z23k⟩ := gx_ok (fun k q => by rcases q with ⟨a, e⟩ | ⟨_, (⟨a, e⟩ | ⟨a, e⟩)⟩ <;> first | omega | exact e.elim) e24
        obtain ⟨q9, q9r, q9c⟩ := z23g
        obtain rfl := (gm_rC_u q9r e11).symm
        obtain ⟨-, z23e, rfl⟩ := q9c.resolve_left (fun z => z.1 (by omega))
        obtain rfl : z23 = ((pN D p) + 1) := z23e
        have z23R := e22M.go z23c z23k
        obtain ⟨⟨z231, z232, z233, z234⟩, -⟩ := z23k
        refine q_blk (lv2 := [(0, vr b0), (1, vi 1), (2, vi i9), (3, vr o), (4, vr bu), (5, vr r), (6, vr f), (7, vr bf), (8, vi dn), (9, vi n), (10, vr g9), (11, vi 1), (12, vi ((pN D p) + 1)), (13, vi (D 3)), (14, vi p), (15, vi x2), (16, vi y), (17, vi 1), (18, vi (pN D p)), (19, vi pl), (20, vr shq), (22, vi z10)]) (st2 := [vi ((pN D p) + 1), vi ((pN D p) + 1)]) kL_law_1112 rfl ?_
        refine AQ.of (AS.ic_ne_f eL_law_1114 (by first | assumption | exact ⟨by omega, by omega⟩ | exact ⟨by decide, by decide⟩) (by first | assumption | exact ⟨by omega, by omega⟩ | exact ⟨by decide, by decide⟩) rfl (by decide)) ?_
        refine q_blk (lv2 := [(0, vr b0), (1, vi 1), (2, vi i9), (3, vr o), (4, vr bu), (5, vr r), (6, vr f), (7, vr bf), (8, vi dn), (9, vi n), (10, vr g9), (11, vi 1), (12, vi ((pN D p) + 1)), (13, vi (D 3)), (14, vi p), (15, vi x2), (16, vi y), (17, vi 1), (18, vi (pN D p)), (19, vi pl), (20, vr shq), (22, vi z10)]) (st2 := [vi 1]) kL_law_1117 rfl ?_
        refine q_goto (tgt := 1122) eL_law_1118 (by decide) ?_
        refine q_blk (lv2 := [(0, vr b0), (1, vi 1), (2, vi i9), (3, vr o), (4, vr bu), (5, vr r), (6, vr f), (7, vr bf), (8, vi dn), (9, vi n), (10, vr g9), (11, vi 1), (12, vi ((pN D p) + 1)), (13, vi (D 3)), (14, vi p), (15, vi x2), (16, vi y), (17, vi 1), (18, vi (pN D p)), (19, vi pl), (20, vr shq), (22, vi z10)]) (st2 := []) kL_law_1122 rfl ?_
        refine q_sub (lv2 := [(0, vr b0), (1, vi 1), (2, vi i9), (3, vr o), (4, vr bu), (5, vr r), (6, vr f), (7, vr bf), (8, vi dn), (9, vi n), (10, vr g9), (11, vi 1)]) [0, 1, 2, 3, 4, 5, 6, 7, 8, 9, 10, 11] rfl ?_
        exact kk 1 h25 z23R ⟨by omega, by omega⟩
  refine AQ.if_ne (tgt := 1008) eL_law_996 (by decide) (by first | assumption | exact ⟨by omega, by omega⟩ | exact ⟨by decide, by decide⟩) (fun br26 => ?_) (fun br26 => ?_)
  · skip
    exact jn1008 x (⟨by omega, by omega⟩)
  · skip
    refine q_blk (lv2 := [(0, vr b0), (1, vi 1), (2, vi i9), (3, vr o), (4, vr bu), (5, vr r), (6, vr f), (7, vr bf), (8, vi dn), (9, vi n), (10, vr g9), (11, vi 1), (12, vi (-2000000097)), (13, vi (D 3)), (14, vi p), (15, vi x), (16, vi y), (17, vi 1), (18, vi (pN D p)), (19, vi pl), (20, vr shq)]) (st2 := [vr f]) kL_law_999 rfl ?_
    obtain ⟨⟨bf27, bs27, bp27⟩, C027, ⟨fz127, C127⟩, ⟨fz227, C227⟩, hst, hsh, hij⟩ := id g4i.1.2.1
    refine q_gi eL_law_1001 fl_RL_137 (Or.inl rfl) C027 (z := (D 0)) rfl ?_
    refine q_blk (lv2 := [(0, vr b0), (1, vi 1), (2, vi i9), (3, vr o), (4, vr bu), (5, vr r), (6, vr f), (7, vr bf), (8, vi dn), (9, vi n), (10, vr g9), (11, vi 1), (12, vi (-2000000097)), (13, vi (D 3)), (14, vi p), (15, vi ((D 0) + 1)), (16, vi y), (17, vi 1), (18, vi (pN D p)), (19, vi pl), (20, vr shq)]) (st2 := []) kL_law_1004 rfl ?_
    exact jn1008 ((D 0) + 1) (⟨by omega, by omega⟩)

set_option maxRecDepth 4000 in
set_option maxHeartbeats 8000000 in
theorem sg_cor0 {nm : String} {TT : List (Nat × Nat × Nat × Nat)} {w : am_w} {d b0 : Nat} {i9 dn n : Int} {Q : RV → AH → Prop} {h : AH} {o bu r bf f sa pa : Nat} {gs gp : Int → Option Nat} {T : Option Nat} {L : GL} {D cm : Int → Int} {sc : Nat} {tx : Int → Int} {bl le : Int} {Hs H1 : List GE} {g9 : Nat} {pl p x y : Int} (hd : 90 ≤ d) (hI : INC w o bu r bf f sa pa gs gp T L h D cm sc tx bl le Hs H1 g9) (hp : p = D 3) (hpl : 0 ≤ pl ∧ pl ≤ 30) (hxx : 0 ≤ x ∧ x ≤ D 0) (hyy : 0 ≤ y ∧ y ≤ D 1) (kk : ∀ (ch : Int) (h1 : AH), RES w o bu r bf f sa gs T L h1 D cm sc tx bl le Hs H1 g9 ch → (h1.2.1 ≤ h.2.1 + 16 ∧ h1.2.2 ≤ h.2.2 + 40) → AQ w (mL nm TT) d 1123 [(0, vr b0), (1, vi 1), (2, vi i9), (3, vr o), (4, vr bu), (5, vr r), (6, vr f), (7, vr bf), (8, vi dn), (9, vi n), (10, vr g9), (11, vi ch)] [] h1 Q)  : AQ w (mL nm TT) d 989 [(0, vr b0), (1, vi 1), (2, vi i9), (3, vr o), (4, vr bu), (5, vr r), (6, vr f), (7, vr bf), (8, vi dn), (9, vi n), (10, vr g9), (11, vi 1), (12, vi (-2000000097)), (13, vi (D 3)), (14, vi p), (15, vi x), (16, vi y), (17, vi 0), (18, vi 0), (19, vi pl)] [] h Q := by
  have hD := hI.1.2.2.1.1
  have d0 := hD.1
  have d1 := hD.2.1
  have d2 := hD.2.2.1
  have d3 := hD.2.2.2.1
  refine q_blk (lv2 := [(0, vr b0), (1, vi 1), (2, vi i9), (3, vr o), (4, vr bu), (5, vr r), (6, vr f), (7, vr bf), (8, vi dn), (9, vi n), (10, vr g9), (11, vi 1), (12, vi (-2000000097)), (13, vi (D 3)), (14, vi p), (15, vi x), (16, vi y), (17, vi 0), (18, vi 0), (19, vi pl)]) (st2 := [vi 20, vr r]) kL_law_989 rfl ?_
  refine AQ.callVi (av := [vi 20]) (st := []) (c_X11_below hI.1.2.2.2.1.1 hI.1.2.2.2.1.2.1.2.1 (b := 20) (by omega) (by omega)) lk_RL_132 (by omega) rfl rfl hI.1.2.2.2.1.1.ob ⟨_, rfl, rfl⟩ (Nat.le_of_ble_eq_true rfl) eL_law_993 (fun z1 h3 e2 => ?_)
  obtain ⟨⟨z1a, z1b⟩, g4r, g4k⟩ := e2
  have g4i := hI.kr g4k g4r
  obtain ⟨-, ⟨g4a, g4b⟩, g4y, g4z⟩ := id g4k
  have jn1008 : ∀ (x2 : Int), (0 ≤ x2 ∧ x2 ≤ D 0 + 1) → AQ w (mL nm TT) d 1008 [(0, vr b0), (1, vi 1), (2, vi i9), (3, vr o), (4, vr bu), (5, vr r), (6, vr f), (7, vr bf), (8, vi dn), (9, vi n), (10, vr g9), (11, vi 1), (12, vi (-2000000097)), (13, vi (D 3)), (14, vi p), (15, vi x2), (16, vi y), (17, vi 0), (18, vi 0), (19, vi pl)] [] h3 (Q) := by
    intro x2 hj
    refine q_blk (lv2 := [(0, vr b0), (1, vi 1), (2, vi i9), (3, vr o), (4, vr bu), (5, vr r), (6, vr f), (7, vr bf), (8, vi dn), (9, vi n), (10, vr g9), (11, vi 1), (12, vi (-2000000097)), (13, vi (D 3)), (14, vi p), (15, vi x2), (16, vi y), (17, vi 0), (18, vi 0), (19, vi pl)]) (st2 := [vi 0]) kL_law_1008 rfl ?_
    refine AQ.of (AS.if_eq_t (tgt := 1027) eL_law_1010 (by decide) ⟨by decide, by decide⟩ (by decide)) ?_
    refine q_blk (lv2 := [(0, vr b0), (1, vi 1), (2, vi i9), (3, vr o), (4, vr bu), (5, vr r), (6, vr f), (7, vr bf), (8, vi dn), (9, vi n), (10, vr g9), (11, vi 1), (12, vi (-2000000097)), (13, vi (D 3)), (14, vi p), (15, vi x2), (16, vi y), (17, vi 0), (18, vi 0), (19, vi pl)]) (st2 := [vi 0]) kL_law_1027 rfl ?_
    refine q_blk (lv2 := [(0, vr b0), (1, vi 1), (2, vi i9), (3, vr o), (4, vr bu), (5, vr r), (6, vr f), (7, vr bf), (8, vi dn), (9, vi n), (10, vr g9), (11, vi 0), (12, vi (-2000000097)), (13, vi (D 3)), (14, vi p), (15, vi x2), (16, vi y), (17, vi 0), (18, vi 0), (19, vi pl)]) (st2 := [vi 0]) kL_law_1028 rfl ?_
    refine AQ.of (AS.if_eq_t (tgt := 1039) eL_law_1032 (by decide) ⟨by decide, by decide⟩ (by decide)) ?_
    refine q_blk (lv2 := [(0, vr b0), (1, vi 1), (2, vi i9), (3, vr o), (4, vr bu), (5, vr r), (6, vr f), (7, vr bf), (8, vi dn), (9, vi n), (10, vr g9), (11, vi 0), (12, vi (-2000000097)), (13, vi (D 3)), (14, vi p), (15, vi x2), (16, vi y), (17, vi 0), (18, vi 0), (19, vi pl)]) (st2 := [vi 0]) kL_law_1039 rfl ?_
    refine AQ.of (AS.if_eq_t (tgt := 1102) eL_law_1041 (by decide) ⟨by decide, by decide⟩ (by decide)) ?_
    refine q_blk (lv2 := [(0, vr b0), (1, vi 1), (2, vi i9), (3, vr o), (4, vr bu), (5, vr r), (6, vr f), (7, vr bf), (8, vi dn), (9, vi n), (10, vr g9), (11, vi 0), (12, vi (-2000000097)), (13, vi (D 3)), (14, vi p), (15, vi x2), (16, vi y), (17, vi 0), (18, vi 0), (19, vi pl)]) (st2 := [vi y, vi x2, vi p, vr o]) kL_law_1102 rfl ?_
    refine AQ.callWi (av := [vr o, vi p, vi x2, vi y]) (st := []) (c_L_corner (c_X8_corner (MID.inc g4i).1.1 ⟨by omega, by omega⟩ ⟨by omega, by omega⟩ ⟨by omega, by omega⟩) (MID.inc g4i).1.1.ob (fun k h1 q => by rcases q.1 with ⟨_, e⟩ | ⟨_, (⟨_, e⟩ | ⟨_, e⟩)⟩ <;> first | (cases e; first | exact Or.inl rfl | exact Or.inr rfl) | exact e.elim)) lkw_L_corner (by omega) rfl rfl (Nat.le_of_ble_eq_true rfl) eL_law_1109 (fun z5 h7 e6 => ?_)
    obtain ⟨z5e, z5h⟩ := gx_th (k0 := 2) (fun q => by have := q.1; omega) (fun k q => by rcases q with ⟨a, e⟩ | ⟨_, (⟨a, e⟩ | ⟨a, e⟩)⟩ <;> first | (cases e; first | rfl | omega) | exact e.elim) e6
    subst z5h
    obtain rfl : z5 = (-2000000097) := z5e
    have z5t : (gm_thr h3).2.1 = h3.2.1 + 1 := rfl
    have z5s : (gm_thr h3).2.2 = h3.2.2 + 6 := rfl
    refine q_blk (lv2 := [(0, vr b0), (1, vi 1), (2, vi i9), (3, vr o), (4, vr bu), (5, vr r), (6, vr f), (7, vr bf), (8, vi dn), (9, vi n), (10, vr g9), (11, vi 0), (12, vi (-2000000097)), (13, vi (D 3)), (14, vi p), (15, vi x2), (16, vi y), (17, vi 0), (18, vi 0), (19, vi pl)]) (st2 := [vi (-2000000097), vi (-2000000097)]) kL_law_1112 rfl ?_
    refine AQ.of (AS.ic_ne_f eL_law_1114 ⟨by decide, by decide⟩ ⟨by decide, by decide⟩ rfl (by decide)) ?_
    refine q_blk (lv2 := [(0, vr b0), (1, vi 1), (2, vi i9), (3, vr o), (4, vr bu), (5, vr r), (6, vr f), (7, vr bf), (8, vi dn), (9, vi n), (10, vr g9), (11, vi 0), (12, vi (-2000000097)), (13, vi (D 3)), (14, vi p), (15, vi x2), (16, vi y), (17, vi 0), (18, vi 0), (19, vi pl)]) (st2 := [vi 1]) kL_law_1117 rfl ?_
    refine q_goto (tgt := 1122) eL_law_1118 (by decide) ?_
    refine q_blk (lv2 := [(0, vr b0), (1, vi 1), (2, vi i9), (3, vr o), (4, vr bu), (5, vr r), (6, vr f), (7, vr bf), (8, vi dn), (9, vi n), (10, vr g9), (11, vi 0), (12, vi (-2000000097)), (13, vi (D 3)), (14, vi p), (15, vi x2), (16, vi y), (17, vi 0), (18, vi 0), (19, vi pl)]) (st2 := []) kL_law_1122 rfl ?_
    refine q_sub (lv2 := [(0, vr b0), (1, vi 1), (2, vi i9), (3, vr o), (4, vr bu), (5, vr r), (6, vr f), (7, vr bf), (8, vi dn), (9, vi n), (10, vr g9), (11, vi 0)]) [0, 1, 2, 3, 4, 5, 6, 7, 8, 9, 10, 11] rfl ?_
    exact kk 0 (gm_thr h3) (RES.no g4i) ⟨by omega, by omega⟩
  refine AQ.if_ne (tgt := 1008) eL_law_996 (by decide) (by first | assumption | exact ⟨by omega, by omega⟩ | exact ⟨by decide, by decide⟩) (fun br8 => ?_) (fun br8 => ?_)
  · skip
    exact jn1008 x (⟨by omega, by omega⟩)
  · skip
    refine q_blk (lv2 := [(0, vr b0), (1, vi 1), (2, vi i9), (3, vr o), (4, vr bu), (5, vr r), (6, vr f), (7, vr bf), (8, vi dn), (9, vi n), (10, vr g9), (11, vi 1), (12, vi (-2000000097)), (13, vi (D 3)), (14, vi p), (15, vi x), (16, vi y), (17, vi 0), (18, vi 0), (19, vi pl)]) (st2 := [vr f]) kL_law_999 rfl ?_
    obtain ⟨⟨bf9, bs9, bp9⟩, C09, ⟨fz19, C19⟩, ⟨fz29, C29⟩, hst, hsh, hij⟩ := id g4i.1.2.1
    refine q_gi eL_law_1001 fl_RL_137 (Or.inl rfl) C09 (z := (D 0)) rfl ?_
    refine q_blk (lv2 := [(0, vr b0), (1, vi 1), (2, vi i9), (3, vr o), (4, vr bu), (5, vr r), (6, vr f), (7, vr bf), (8, vi dn), (9, vi n), (10, vr g9), (11, vi 1), (12, vi (-2000000097)), (13, vi (D 3)), (14, vi p), (15, vi ((D 0) + 1)), (16, vi y), (17, vi 0), (18, vi 0), (19, vi pl)]) (st2 := []) kL_law_1004 rfl ?_
    exact jn1008 ((D 0) + 1) (⟨by omega, by omega⟩)

set_option maxRecDepth 4000 in
set_option maxHeartbeats 8000000 in
theorem sg_beg1 {nm : String} {TT : List (Nat × Nat × Nat × Nat)} {w : am_w} {d b0 : Nat} {i9 dn n : Int} {Q : RV → AH → Prop} {h : AH} {o bu r bf f sa pa : Nat} {gs gp : Int → Option Nat} {T : Option Nat} {L : GL} {D cm : Int → Int} {sc : Nat} {tx : Int → Int} {bl le : Int} {Hs H1 : List GE} {g9 shq : Nat} {pl p x y : Int} (hd : 90 ≤ d) (hsq : gp p = some shq) (hI : INC w o bu r bf f sa pa gs gp T L h D cm sc tx bl le Hs H1 g9) (hp : 0 ≤ p ∧ p < D 3) (hpl : 0 ≤ pl ∧ pl ≤ pN D p) (hxx : 0 ≤ x ∧ x ≤ D 0) (hyy : 0 ≤ y ∧ y ≤ D 1) (kk : ∀ (ch : Int) (h1 : AH), RES w o bu r bf f sa gs T L h1 D cm sc tx bl le Hs H1 g9 ch → (h1.2.1 ≤ h.2.1 + 16 ∧ h1.2.2 ≤ h.2.2 + 40) → AQ w (mL nm TT) d 1123 [(0, vr b0), (1, vi 1), (2, vi i9), (3, vr o), (4, vr bu), (5, vr r), (6, vr f), (7, vr bf), (8, vi dn), (9, vi n), (10, vr g9), (11, vi ch)] [] h1 Q)  : AQ w (mL nm TT) d 452 [(0, vr b0), (1, vi 1), (2, vi i9), (3, vr o), (4, vr bu), (5, vr r), (6, vr f), (7, vr bf), (8, vi dn), (9, vi n), (10, vr g9), (11, vi 1), (12, vi (-2000000097)), (13, vi (D 3)), (14, vi p), (15, vi x), (16, vi y), (17, vi 1), (18, vi (pN D p)), (19, vi pl), (20, vr shq)] [] h Q := by
  have hD := hI.1.2.2.1.1
  have d0 := hD.1
  have d1 := hD.2.1
  have d2 := hD.2.2.1
  have d3 := hD.2.2.2.1
  refine q_blk (lv2 := [(0, vr b0), (1, vi 1), (2, vi i9), (3, vr o), (4, vr bu), (5, vr r), (6, vr f), (7, vr bf), (8, vi dn), (9, vi n), (10, vr g9), (11, vi 1), (12, vi (-2000000097)), (13, vi (D 3)), (14, vi p), (15, vi x), (16, vi y), (17, vi 1), (18, vi (pN D p)), (19, vi pl), (20, vr shq)]) (st2 := [vi 9, vr r, vr r]) kL_law_452 rfl ?_
  refine AQ.callVi (av := [vi 9]) (st := [vr r]) (c_X11_below hI.1.2.2.2.1.1 hI.1.2.2.2.1.2.1.2.1 (b := 9) (by omega) (by omega)) lk_RL_132 (by omega) rfl rfl hI.1.2.2.2.1.1.ob ⟨_, rfl, rfl⟩ (Nat.le_of_ble_eq_true rfl) eL_law_458 (fun z1 h3 e2 => ?_)
  obtain ⟨⟨z1a, z1b⟩, g4r, g4k⟩ := e2
  have g4i := hI.kr g4k g4r
  obtain ⟨-, ⟨g4a, g4b⟩, g4y, g4z⟩ := id g4k
  have jn469 : ∀ (u : Int), (u = 4 ∨ u = 5) → AQ w (mL nm TT) d 469 [(0, vr b0), (1, vi 1), (2, vi i9), (3, vr o), (4, vr bu), (5, vr r), (6, vr f), (7, vr bf), (8, vi dn), (9, vi n), (10, vr g9), (11, vi 1), (12, vi (-2000000097)), (13, vi (D 3)), (14, vi p), (15, vi x), (16, vi y), (17, vi 1), (18, vi (pN D p)), (19, vi pl), (20, vr shq)] [vi u, vr r] h3 (Q) := by
    intro u hj
    refine AQ.callVi (av := [vi u]) (st := []) (c_X11_below g4i.1.2.2.2.1.1 g4i.1.2.2.2.1.2.1.2.1 (b := u) (by omega) (by omega)) lk_RL_132 (by omega) rfl rfl g4i.1.2.2.2.1.1.ob ⟨_, rfl, rfl⟩ (Nat.le_of_ble_eq_true rfl) eL_law_469 (fun z5 h7 e6 => ?_)
    obtain ⟨⟨z5a, z5b⟩, g8r, g8k⟩ := e6
    have g8i := g4i.kr g8k g8r
    obtain ⟨-, ⟨g8a, g8b⟩, g8y, g8z⟩ := id g8k
    refine q_blk (lv2 := [(0, vr b0), (1, vi 1), (2, vi i9), (3, vr o), (4, vr bu), (5, vr r), (6, vr f), (7, vr bf), (8, vi dn), (9, vi n), (10, vr g9), (11, vi 1), (12, vi (-2000000097)), (13, vi (D 3)), (14, vi p), (15, vi x), (16, vi y), (17, vi 1), (18, vi (pN D p)), (19, vi pl), (20, vr shq), (21, vi z5)]) (st2 := [vi 4, vi z5]) kL_law_472 rfl ?_
    refine AQ.ic_ge (tgt := 491) eL_law_477 (by decide) (by first | assumption | exact ⟨by omega, by omega⟩ | exact ⟨by decide, by decide⟩) ⟨by decide, by decide⟩ (fun br9 => ?_) (fun br9 => ?_)
    · skip
      refine q_blk (lv2 := [(0, vr b0), (1, vi 1), (2, vi i9), (3, vr o), (4, vr bu), (5, vr r), (6, vr f), (7, vr bf), (8, vi dn), (9, vi n), (10, vr g9), (11, vi 1), (12, vi (-2000000097)), (13, vi (D 3)), (14, vi p), (15, vi x), (16, vi y), (17, vi 1), (18, vi (pN D p)), (19, vi pl), (20, vr shq), (21, vi z5)]) (st2 := [vi 0]) kL_law_491 rfl ?_
      refine q_blk (lv2 := [(0, vr b0), (1, vi 1), (2, vi i9), (3, vr o), (4, vr bu), (5, vr r), (6, vr f), (7, vr bf), (8, vi dn), (9, vi n), (10, vr g9), (11, vi 0), (12, vi (-2000000097)), (13, vi (D 3)), (14, vi p), (15, vi x), (16, vi y), (17, vi 1), (18, vi (pN D p)), (19, vi pl), (20, vr shq), (21, vi z5)]) (st2 := [vi 3, vi z5]) kL_law_492 rfl ?_
      refine AQ.of (AS.ic_le_f eL_law_497 (by first | assumption | exact ⟨by omega, by omega⟩ | exact ⟨by decide, by decide⟩) ⟨by decide, by decide⟩ (by omega) (by decide)) ?_
      refine AQ.of (AS.ldc (z := (-2000000098)) eL_law_500 (show Cond.constant RL 42 (Int32.ofInt (-2000000098)) ∈ GW from am_gw 1022 (by decide +kernel) (by decide +kernel))) ?_
      refine q_goto (tgt := 507) eL_law_502 (by decide) ?_
      refine q_blk (lv2 := [(0, vr b0), (1, vi 1), (2, vi i9), (3, vr o), (4, vr bu), (5, vr r), (6, vr f), (7, vr bf), (8, vi dn), (9, vi n), (10, vr g9), (11, vi 0), (12, vi (-2000000098)), (13, vi (D 3)), (14, vi p), (15, vi x), (16, vi y), (17, vi 1), (18, vi (pN D p)), (19, vi pl), (20, vr shq), (21, vi z5)]) (st2 := [vi 0]) kL_law_507 rfl ?_
      refine AQ.of (AS.if_eq_t (tgt := 587) eL_law_511 (by decide) ⟨by decide, by decide⟩ (by decide)) ?_
      refine q_blk (lv2 := [(0, vr b0), (1, vi 1), (2, vi i9), (3, vr o), (4, vr bu), (5, vr r), (6, vr f), (7, vr bf), (8, vi dn), (9, vi n), (10, vr g9), (11, vi 0), (12, vi (-2000000098)), (13, vi (D 3)), (14, vi p), (15, vi x), (16, vi y), (17, vi 1), (18, vi (pN D p)), (19, vi pl), (20, vr shq), (21, vi z5)]) (st2 := [vi y, vi x, vi z5, vr o]) kL_law_587 rfl ?_
      refine AQ.callWi (av := [vr o, vi z5, vi x, vi y]) (st := []) (c_L_begin (c_X8_begin (MID.inc g8i).1.1 ⟨by omega, by omega⟩ ⟨by omega, by omega⟩ ⟨by omega, by omega⟩) (MID.inc g8i).1.1.ob (fun k h1 q => by rcases q.1 with ⟨_, e⟩ | ⟨_, (⟨_, e⟩ | ⟨_, (⟨_, e⟩ | ⟨_, e⟩)⟩)⟩ <;> first | (cases e; first | exact Or.inl rfl | exact Or.inr rfl) | exact e.elim)) lkw_L_begin (by omega) rfl rfl (Nat.le_of_ble_eq_true rfl) eL_law_594 (fun z10 h12 e11 => ?_)
      obtain ⟨z10e, z10h⟩ := gx_th (k0 := 0) (fun q => by have := q.1; omega) (fun k q => by rcases q with ⟨a, e⟩ | ⟨_, (⟨a, e⟩ | ⟨_, (⟨a, e⟩ | ⟨a, e⟩)⟩)⟩ <;> first | (cases e; first | rfl | omega) | exact e.elim) e11
      subst z10h
      obtain rfl : z10 = (-2000000098) := z10e
      have z10t : (gm_thr h7).2.1 = h7.2.1 + 1 := rfl
      have z10s : (gm_thr h7).2.2 = h7.2.2 + 6 := rfl
      refine q_blk (lv2 := [(0, vr b0), (1, vi 1), (2, vi i9), (3, vr o), (4, vr bu), (5, vr r), (6, vr f), (7, vr bf), (8, vi dn), (9, vi n), (10, vr g9), (11, vi 0), (12, vi (-2000000098)), (13, vi (D 3)), (14, vi p), (15, vi x), (16, vi y), (17, vi 1), (18, vi (pN D p)), (19, vi pl), (20, vr shq), (21, vi z5)]) (st2 := [vi (-2000000098), vi (-2000000098)]) kL_law_597 rfl ?_
      refine AQ.of (AS.ic_ne_f eL_law_599 ⟨by decide, by decide⟩ ⟨by decide, by decide⟩ rfl (by decide)) ?_
      refine q_blk (lv2 := [(0, vr b0), (1, vi 1), (2, vi i9), (3, vr o), (4, vr bu), (5, vr r), (6, vr f), (7, vr bf), (8, vi dn), (9, vi n), (10, vr g9), (11, vi 0), (12, vi (-2000000098)), (13, vi (D 3)), (14, vi p), (15, vi x), (16, vi y), (17, vi 1), (18, vi (pN D p)), (19, vi pl), (20, vr shq), (21, vi z5)]) (st2 := [vi 1]) kL_law_602 rfl ?_
      refine q_goto (tgt := 607) eL_law_603 (by decide) ?_
      refine q_blk (lv2 := [(0, vr b0), (1, vi 1), (2, vi i9), (3, vr o), (4, vr bu), (5, vr r), (6, vr f), (7, vr bf), (8, vi dn), (9, vi n), (10, vr g9), (11, vi 0), (12, vi (-2000000098)), (13, vi (D 3)), (14, vi p), (15, vi x), (16, vi y), (17, vi 1), (18, vi (pN D p)), (19, vi pl), (20, vr shq), (21, vi z5)]) (st2 := []) kL_law_607 rfl ?_
      refine q_goto (tgt := 1123) eL_law_608 (by decide) ?_
      refine q_sub (lv2 := [(0, vr b0), (1, vi 1), (2, vi i9), (3, vr o), (4, vr bu), (5, vr r), (6, vr f), (7, vr bf), (8, vi dn), (9, vi n), (10, vr g9), (11, vi 0)]) [0, 1, 2, 3, 4, 5, 6, 7, 8, 9, 10, 11] rfl ?_
      exact kk 0 (gm_thr h7) (RES.no g8i) ⟨by omega, by omega⟩
    · skip
      refine q_blk (lv2 := [(0, vr b0), (1, vi 1), (2, vi i9), (3, vr o), (4, vr bu), (5, vr r), (6, vr f), (7, vr bf), (8, vi dn), (9, vi n), (10, vr g9), (11, vi 1), (12, vi (-2000000097)), (13, vi (D 3)), (14, vi p), (15, vi x), (16, vi y), (17, vi 1), (18, vi (pN D p)), (19, vi pl), (20, vr shq), (21, vi z5)]) (st2 := [vi 6, vi (D 3)]) kL_law_480 rfl ?_
      refine AQ.ic_ge (tgt := 491) eL_law_484 (by decide) (by first | assumption | exact ⟨by omega, by omega⟩ | exact ⟨by decide, by decide⟩) ⟨by decide, by decide⟩ (fun br13 => ?_) (fun br13 => ?_)
      · skip
        refine q_blk (lv2 := [(0, vr b0), (1, vi 1), (2, vi i9), (3, vr o), (4, vr bu), (5, vr r), (6, vr f), (7, vr bf), (8, vi dn), (9, vi n), (10, vr g9), (11, vi 1), (12, vi (-2000000097)), (13, vi (D 3)), (14, vi p), (15, vi x), (16, vi y), (17, vi 1), (18, vi (pN D p)), (19, vi pl), (20, vr shq), (21, vi z5)]) (st2 := [vi 0]) kL_law_491 rfl ?_
        refine q_blk (lv2 := [(0, vr b0), (1, vi 1), (2, vi i9), (3, vr o), (4, vr bu), (5, vr r), (6, vr f), (7, vr bf), (8, vi dn), (9, vi n), (10, vr g9), (11, vi 0), (12, vi (-2000000097)), (13, vi (D 3)), (14, vi p), (15, vi x), (16, vi y), (17, vi 1), (18, vi (pN D p)), (19, vi pl), (20, vr shq), (21, vi z5)]) (st2 := [vi 3, vi z5]) kL_law_492 rfl ?_
        refine AQ.of (AS.ic_le_t (tgt := 505) eL_law_497 (by decide) (by first | assumption | exact ⟨by omega, by omega⟩ | exact ⟨by decide, by decide⟩) ⟨by decide, by decide⟩ (by omega)) ?_
        refine AQ.of (AS.ldc (z := (-2000000099)) eL_law_505 (show Cond.constant RL 71 (Int32.ofInt (-2000000099)) ∈ GW from am_gw 1118 (by decide +kernel) (by decide +kernel))) ?_
        refine q_blk (lv2 := [(0, vr b0), (1, vi 1), (2, vi i9), (3, vr o), (4, vr bu), (5, vr r), (6, vr f), (7, vr bf), (8, vi dn), (9, vi n), (10, vr g9), (11, vi 0), (12, vi (-2000000099)), (13, vi (D 3)), (14, vi p), (15, vi x), (16, vi y), (17, vi 1), (18, vi (pN D p)), (19, vi pl), (20, vr shq), (21, vi z5)]) (st2 := [vi 0]) kL_law_507 rfl ?_
        refine AQ.of (AS.if_eq_t (tgt := 587) eL_law_511 (by decide) ⟨by decide, by decide⟩ (by decide)) ?_
        refine q_blk (lv2 := [(0, vr b0), (1, vi 1), (2, vi i9), (3, vr o), (4, vr bu), (5, vr r), (6, vr f), (7, vr bf), (8, vi dn), (9, vi n), (10, vr g9), (11, vi 0), (12, vi (-2000000099)), (13, vi (D 3)), (14, vi p), (15, vi x), (16, vi y), (17, vi 1), (18, vi (pN D p)), (19, vi pl), (20, vr shq), (21, vi z5)]) (st2 := [vi y, vi x, vi z5, vr o]) kL_law_587 rfl ?_
        refine AQ.callWi (av := [vr o, vi z5, vi x, vi y]) (st := []) (c_L_begin (c_X8_begin (MID.inc g8i).1.1 ⟨by omega, by omega⟩ ⟨by omega, by omega⟩ ⟨by omega, by omega⟩) (MID.inc g8i).1.1.ob (fun k h1 q => by rcases q.1 with ⟨_, e⟩ | ⟨_, (⟨_, e⟩ | ⟨_, (⟨_, e⟩ | ⟨_, e⟩)⟩)⟩ <;> first | (cases e; first | exact Or.inl rfl | exact Or.inr rfl) | exact e.elim)) lkw_L_begin (by omega) rfl rfl (Nat.le_of_ble_eq_true rfl) eL_law_594 (fun z14 h16 e15 => ?_)
        obtain ⟨z14e, z14h⟩ := gx_th (k0 := 3) (fun q => by have := q.1; omega) (fun k q => by rcases q with ⟨a, e⟩ | ⟨_, (⟨a, e⟩ | ⟨_, (⟨a, e⟩ | ⟨a, e⟩)⟩)⟩ <;> first | (cases e; first | rfl | omega) | exact e.elim) e15
        subst z14h
        obtain rfl : z14 = (-2000000099) := z14e
        have z14t : (gm_thr h7).2.1 = h7.2.1 + 1 := rfl
        have z14s : (gm_thr h7).2.2 = h7.2.2 + 6 := rfl
        refine q_blk (lv2 := [(0, vr b0), (1, vi 1), (2, vi i9), (3, vr o), (4, vr bu), (5, vr r), (6, vr f), (7, vr bf), (8, vi dn), (9, vi n), (10, vr g9), (11, vi 0), (12, vi (-2000000099)), (13, vi (D 3)), (14, vi p), (15, vi x), (16, vi y), (17, vi 1), (18, vi (pN D p)), (19, vi pl), (20, vr shq), (21, vi z5)]) (st2 := [vi (-2000000099), vi (-2000000099)]) kL_law_597 rfl ?_
        refine AQ.of (AS.ic_ne_f eL_law_599 ⟨by decide, by decide⟩ ⟨by decide, by decide⟩ rfl (by decide)) ?_
        refine q_blk (lv2 := [(0, vr b0), (1, vi 1), (2, vi i9), (3, vr o), (4, vr bu), (5, vr r), (6, vr f), (7, vr bf), (8, vi dn), (9, vi n), (10, vr g9), (11, vi 0), (12, vi (-2000000099)), (13, vi (D 3)), (14, vi p), (15, vi x), (16, vi y), (17, vi 1), (18, vi (pN D p)), (19, vi pl), (20, vr shq), (21, vi z5)]) (st2 := [vi 1]) kL_law_602 rfl ?_
        refine q_goto (tgt := 607) eL_law_603 (by decide) ?_
        refine q_blk (lv2 := [(0, vr b0), (1, vi 1), (2, vi i9), (3, vr o), (4, vr bu), (5, vr r), (6, vr f), (7, vr bf), (8, vi dn), (9, vi n), (10, vr g9), (11, vi 0), (12, vi (-2000000099)), (13, vi (D 3)), (14, vi p), (15, vi x), (16, vi y), (17, vi 1), (18, vi (pN D p)), (19, vi pl), (20, vr shq), (21, vi z5)]) (st2 := []) kL_law_607 rfl ?_
        refine q_goto (tgt := 1123) eL_law_608 (by decide) ?_
        refine q_sub (lv2 := [(0, vr b0), (1, vi 1), (2, vi i9), (3, vr o), (4, vr bu), (5, vr r), (6, vr f), (7, vr bf), (8, vi dn), (9, vi n), (10, vr g9), (11, vi 0)]) [0, 1, 2, 3, 4, 5, 6, 7, 8, 9, 10, 11] rfl ?_
        exact kk 0 (gm_thr h7) (RES.no g8i) ⟨by omega, by omega⟩
      · skip
        refine q_blk (lv2 := [(0, vr b0), (1, vi 1), (2, vi i9), (3, vr o), (4, vr bu), (5, vr r), (6, vr f), (7, vr bf), (8, vi dn), (9, vi n), (10, vr g9), (11, vi 1), (12, vi (-2000000097)), (13, vi (D 3)), (14, vi p), (15, vi x), (16, vi y), (17, vi 1), (18, vi (pN D p)), (19, vi pl), (20, vr shq), (21, vi z5)]) (st2 := [vi 1]) kL_law_487 rfl ?_
        refine q_goto (tgt := 492) eL_law_488 (by decide) ?_
        refine q_blk (lv2 := [(0, vr b0), (1, vi 1), (2, vi i9), (3, vr o), (4, vr bu), (5, vr r), (6, vr f), (7, vr bf), (8, vi dn), (9, vi n), (10, vr g9), (11, vi 1), (12, vi (-2000000097)), (13, vi (D 3)), (14, vi p), (15, vi x), (16, vi y), (17, vi 1), (18, vi (pN D p)), (19, vi pl), (20, vr shq), (21, vi z5)]) (st2 := [vi 3, vi z5]) kL_law_492 rfl ?_
        refine AQ.of (AS.ic_le_t (tgt := 505) eL_law_497 (by decide) (by first | assumption | exact ⟨by omega, by omega⟩ | exact ⟨by decide, by decide⟩) ⟨by decide, by decide⟩ (by omega)) ?_
        refine AQ.of (AS.ldc (z := (-2000000099)) eL_law_505 (show Cond.constant RL 71 (Int32.ofInt (-2000000099)) ∈ GW from am_gw 1118 (by decide +kernel) (by decide +kernel))) ?_
        refine q_blk (lv2 := [(0, vr b0), (1, vi 1), (2, vi i9), (3, vr o), (4, vr bu), (5, vr r), (6, vr f), (7, vr bf), (8, vi dn), (9, vi n), (10, vr g9), (11, vi 1), (12, vi (-2000000099)), (13, vi (D 3)), (14, vi p), (15, vi x), (16, vi y), (17, vi 1), (18, vi (pN D p)), (19, vi pl), (20, vr shq), (21, vi z5)]) (st2 := [vi 1]) kL_law_507 rfl ?_
        refine AQ.of (AS.if_eq_f eL_law_511 ⟨by decide, by decide⟩ (by decide) (by decide)) ?_
        refine q_blk (lv2 := [(0, vr b0), (1, vi 1), (2, vi i9), (3, vr o), (4, vr bu), (5, vr r), (6, vr f), (7, vr bf), (8, vi dn), (9, vi n), (10, vr g9), (11, vi 1), (12, vi (-2000000099)), (13, vi (D 3)), (14, vi p), (15, vi x), (16, vi y), (17, vi 1), (18, vi (pN D p)), (19, vi pl), (20, vr shq), (21, vi z5)]) (st2 := [vi y, vi x, vr f]) kL_law_514 rfl ?_
        refine q_Vi (av := [vi x, vi y]) (st := []) (c_X9_isStone g8i.1.2.1 g8i.1.2.2.1.1  (x := x) (y := y) ⟨by omega, by omega⟩ ⟨by omega, by omega⟩) lk_RL_152 (by omega) rfl rfl g8i.1.2.1.ob ⟨_, rfl, rfl⟩ (Nat.le_of_ble_eq_true rfl) eL_law_520 (fun z17 e18 => ?_)
        rcases e18 with ⟨rfl, e18⟩ | ⟨rfl, e18⟩
        · skip
          refine AQ.of (AS.if_ne_t (tgt := 554) eL_law_523 (by decide) ⟨by decide, by decide⟩ (by decide)) ?_
          refine q_blk (lv2 := [(0, vr b0), (1, vi 1), (2, vi i9), (3, vr o), (4, vr bu), (5, vr r), (6, vr f), (7, vr bf), (8, vi dn), (9, vi n), (10, vr g9), (11, vi 1), (12, vi (-2000000099)), (13, vi (D 3)), (14, vi p), (15, vi x), (16, vi y), (17, vi 1), (18, vi (pN D p)), (19, vi pl), (20, vr shq), (21, vi z5)]) (st2 := [vi 0]) kL_law_554 rfl ?_
          refine q_blk (lv2 := [(0, vr b0), (1, vi 1), (2, vi i9), (3, vr o), (4, vr bu), (5, vr r), (6, vr f), (7, vr bf), (8, vi dn), (9, vi n), (10, vr g9), (11, vi 1), (12, vi (-2000000099)), (13, vi (D 3)), (14, vi p), (15, vi x), (16, vi y), (17, vi 1), (18, vi (pN D p)), (19, vi pl), (20, vr shq), (21, vi z5), (22, vi 0)]) (st2 := [vi 0]) kL_law_555 rfl ?_
          refine AQ.of (AS.if_eq_t (tgt := 567) eL_law_559 (by decide) ⟨by decide, by decide⟩ (by decide)) ?_
          refine q_blk (lv2 := [(0, vr b0), (1, vi 1), (2, vi i9), (3, vr o), (4, vr bu), (5, vr r), (6, vr f), (7, vr bf), (8, vi dn), (9, vi n), (10, vr g9), (11, vi 1), (12, vi (-2000000099)), (13, vi (D 3)), (14, vi p), (15, vi x), (16, vi y), (17, vi 1), (18, vi (pN D p)), (19, vi pl), (20, vr shq), (21, vi z5), (22, vi 0)]) (st2 := [vi (-3)]) kL_law_567 rfl ?_
          refine q_blk (lv2 := [(0, vr b0), (1, vi 1), (2, vi i9), (3, vr o), (4, vr bu), (5, vr r), (6, vr f), (7, vr bf), (8, vi dn), (9, vi n), (10, vr g9), (11, vi 1), (12, vi (-3)), (13, vi (D 3)), (14, vi p), (15, vi x), (16, vi y), (17, vi 1), (18, vi (pN D p)), (19, vi pl), (20, vr shq), (21, vi z5), (22, vi 0)]) (st2 := [vi 0]) kL_law_569 rfl ?_
          refine AQ.of (AS.if_eq_t (tgt := 587) eL_law_573 (by decide) ⟨by decide, by decide⟩ (by decide)) ?_
          refine q_blk (lv2 := [(0, vr b0), (1, vi 1), (2, vi i9), (3, vr o), (4, vr bu), (5, vr r), (6, vr f), (7, vr bf), (8, vi dn), (9, vi n), (10, vr g9), (11, vi 1), (12, vi (-3)), (13, vi (D 3)), (14, vi p), (15, vi x), (16, vi y), (17, vi 1), (18, vi (pN D p)), (19, vi pl), (20, vr shq), (21, vi z5), (22, vi 0)]) (st2 := [vi y, vi x, vi z5, vr o]) kL_law_587 rfl ?_
          refine AQ.callWi (av := [vr o, vi z5, vi x, vi y]) (st := []) (c_L_begin (c_X8_begin (MID.inc g8i).1.1 ⟨by omega, by omega⟩ ⟨by omega, by omega⟩ ⟨by omega, by omega⟩) (MID.inc g8i).1.1.ob (fun k h1 q => by rcases q.1 with ⟨_, e⟩ | ⟨_, (⟨_, e⟩ | ⟨_, (⟨_, e⟩ | ⟨_, e⟩)⟩)⟩ <;> first | (cases e; first | exact Or.inl rfl | exact Or.inr rfl) | exact e.elim)) lkw_L_begin (by omega) rfl rfl (Nat.le_of_ble_eq_true rfl) eL_law_594 (fun z19 h21 e20 => ?_)
          obtain ⟨-, D9, cm9, z19g, z19c, z19k⟩ := gx_ok (fun k q => by rcases q with ⟨a, e⟩ | ⟨_, (⟨a, e⟩ | ⟨_, (⟨a, e⟩ | ⟨a, e⟩)⟩)⟩ <;> first | omega | exact e.elim) e20
          obtain ⟨-, z19e, z19D⟩ := z19g.resolve_right (fun z => z.1 (Or.inl (Or.inl e18)))
          obtain rfl := z19D.symm
          obtain rfl : z19 = (-3) := z19e
          have z19R := (MID.inc g8i).go z19c z19k
          obtain ⟨⟨z191, z192, z193, z194⟩, -⟩ := z19k
          refine q_blk (lv2 := [(0, vr b0), (1, vi 1), (2, vi i9), (3, vr o), (4, vr bu), (5, vr r), (6, vr f), (7, vr bf), (8, vi dn), (9, vi n), (10, vr g9), (11, vi 1), (12, vi (-3)), (13, vi (D 3)), (14, vi p), (15, vi x), (16, vi y), (17, vi 1), (18, vi (pN D p)), (19, vi pl), (20, vr shq), (21, vi z5), (22, vi 0)]) (st2 := [vi (-3), vi (-3)]) kL_law_597 rfl ?_
          refine AQ.of (AS.ic_ne_f eL_law_599 ⟨by decide, by decide⟩ ⟨by decide, by decide⟩ rfl (by decide)) ?_
          refine q_blk (lv2 := [(0, vr b0), (1, vi 1), (2, vi i9), (3, vr o), (4, vr bu), (5, vr r), (6, vr f), (7, vr bf), (8, vi dn), (9, vi n), (10, vr g9), (11, vi 1), (12, vi (-3)), (13, vi (D 3)), (14, vi p), (15, vi x), (16, vi y), (17, vi 1), (18, vi (pN D p)), (19, vi pl), (20, vr shq), (21, vi z5), (22, vi 0)]) (st2 := [vi 1]) kL_law_602 rfl ?_
          refine q_goto (tgt := 607) eL_law_603 (by decide) ?_
          refine q_blk (lv2 := [(0, vr b0), (1, vi 1), (2, vi i9), (3, vr o), (4, vr bu), (5, vr r), (6, vr f), (7, vr bf), (8, vi dn), (9, vi n), (10, vr g9), (11, vi 1), (12, vi (-3)), (13, vi (D 3)), (14, vi p), (15, vi x), (16, vi y), (17, vi 1), (18, vi (pN D p)), (19, vi pl), (20, vr shq), (21, vi z5), (22, vi 0)]) (st2 := []) kL_law_607 rfl ?_
          refine q_goto (tgt := 1123) eL_law_608 (by decide) ?_
          refine q_sub (lv2 := [(0, vr b0), (1, vi 1), (2, vi i9), (3, vr o), (4, vr bu), (5, vr r), (6, vr f), (7, vr bf), (8, vi dn), (9, vi n), (10, vr g9), (11, vi 1)]) [0, 1, 2, 3, 4, 5, 6, 7, 8, 9, 10, 11] rfl ?_
          exact kk 1 h21 z19R ⟨by omega, by omega⟩
        · skip
          refine AQ.of (AS.if_ne_f eL_law_523 ⟨by decide, by decide⟩ (by decide) (by decide)) ?_
          refine q_blk (lv2 := [(0, vr b0), (1, vi 1), (2, vi i9), (3, vr o), (4, vr bu), (5, vr r), (6, vr f), (7, vr bf), (8, vi dn), (9, vi n), (10, vr g9), (11, vi 1), (12, vi (-2000000099)), (13, vi (D 3)), (14, vi p), (15, vi x), (16, vi y), (17, vi 1), (18, vi (pN D p)), (19, vi pl), (20, vr shq), (21, vi z5)]) (st2 := [vi y, vi x, vr f]) kL_law_526 rfl ?_
          refine q_Vi (av := [vi x, vi y]) (st := []) (c_X9_isCorner g8i.1.2.1 g8i.1.2.2.1.1  (x := x) (y := y) ⟨by omega, by omega⟩ ⟨by omega, by omega⟩) lk_RL_163 (by omega) rfl rfl g8i.1.2.1.ob ⟨_, rfl, rfl⟩ (Nat.le_of_ble_eq_true rfl) eL_law_532 (fun z22 e23 => ?_)
          rcases e23 with ⟨rfl, e23⟩ | ⟨rfl, e23⟩
          · skip
            refine AQ.of (AS.if_ne_t (tgt := 554) eL_law_535 (by decide) ⟨by decide, by decide⟩ (by decide)) ?_
            refine q_blk (lv2 := [(0, vr b0), (1, vi 1), (2, vi i9), (3, vr o), (4, vr bu), (5, vr r), (6, vr f), (7, vr bf), (8, vi dn), (9, vi n), (10, vr g9), (11, vi 1), (12, vi (-2000000099)), (13, vi (D 3)), (14, vi p), (15, vi x), (16, vi y), (17, vi 1), (18, vi (pN D p)), (19, vi pl), (20, vr shq), (21, vi z5)]) (st2 := [vi 0]) kL_law_554 rfl ?_
            refine q_blk (lv2 := [(0, vr b0), (1, vi 1), (2, vi i9), (3, vr o), (4, vr bu), (5, vr r), (6, vr f), (7, vr bf), (8, vi dn), (9, vi n), (10, vr g9), (11, vi 1), (12, vi (-2000000099)), (13, vi (D 3)), (14, vi p), (15, vi x), (16, vi y), (17, vi 1), (18, vi (pN D p)), (19, vi pl), (20, vr shq), (21, vi z5), (22, vi 0)]) (st2 := [vi 0]) kL_law_555 rfl ?_
            refine AQ.of (AS.if_eq_t (tgt := 567) eL_law_559 (by decide) ⟨by decide, by decide⟩ (by decide)) ?_
            refine q_blk (lv2 := [(0, vr b0), (1, vi 1), (2, vi i9), (3, vr o), (4, vr bu), (5, vr r), (6, vr f), (7, vr bf), (8, vi dn), (9, vi n), (10, vr g9), (11, vi 1), (12, vi (-2000000099)), (13, vi (D 3)), (14, vi p), (15, vi x), (16, vi y), (17, vi 1), (18, vi (pN D p)), (19, vi pl), (20, vr shq), (21, vi z5), (22, vi 0)]) (st2 := [vi (-3)]) kL_law_567 rfl ?_
            refine q_blk (lv2 := [(0, vr b0), (1, vi 1), (2, vi i9), (3, vr o), (4, vr bu), (5, vr r), (6, vr f), (7, vr bf), (8, vi dn), (9, vi n), (10, vr g9), (11, vi 1), (12, vi (-3)), (13, vi (D 3)), (14, vi p), (15, vi x), (16, vi y), (17, vi 1), (18, vi (pN D p)), (19, vi pl), (20, vr shq), (21, vi z5), (22, vi 0)]) (st2 := [vi 0]) kL_law_569 rfl ?_
            refine AQ.of (AS.if_eq_t (tgt := 587) eL_law_573 (by decide) ⟨by decide, by decide⟩ (by decide)) ?_
            refine q_blk (lv2 := [(0, vr b0), (1, vi 1), (2, vi i9), (3, vr o), (4, vr bu), (5, vr r), (6, vr f), (7, vr bf), (8, vi dn), (9, vi n), (10, vr g9), (11, vi 1), (12, vi (-3)), (13, vi (D 3)), (14, vi p), (15, vi x), (16, vi y), (17, vi 1), (18, vi (pN D p)), (19, vi pl), (20, vr shq), (21, vi z5), (22, vi 0)]) (st2 := [vi y, vi x, vi z5, vr o]) kL_law_587 rfl ?_
            refine AQ.callWi (av := [vr o, vi z5, vi x, vi y]) (st := []) (c_L_begin (c_X8_begin (MID.inc g8i).1.1 ⟨by omega, by omega⟩ ⟨by omega, by omega⟩ ⟨by omega, by omega⟩) (MID.inc g8i).1.1.ob (fun k h1 q => by rcases q.1 with ⟨_, e⟩ | ⟨_, (⟨_, e⟩ | ⟨_, (⟨_, e⟩ | ⟨_, e⟩)⟩)⟩ <;> first | (cases e; first | exact Or.inl rfl | exact Or.inr rfl) | exact e.elim)) lkw_L_begin (by omega) rfl rfl (Nat.le_of_ble_eq_true rfl) eL_law_594 (fun z24 h26 e25 => ?_)
            obtain ⟨-, D9, cm9, z24g, z24c, z24k⟩ := gx_ok (fun k q => by rcases q with ⟨a, e⟩ | ⟨_, (⟨a, e⟩ | ⟨_, (⟨a, e⟩ | ⟨a, e⟩)⟩)⟩ <;> first | omega | exact e.elim) e25
            obtain ⟨-, z24e, z24D⟩ := z24g.resolve_right (fun z => z.1 (Or.inl (Or.inr e23)))
            obtain rfl := z24D.symm
            obtain rfl : z24 = (-3) := z24e
            have z24R := (MID.inc g8i).go z24c z24k
            obtain ⟨⟨z241, z242, z243, z244⟩, -⟩ := z24k
            refine q_blk (lv2 := [(0, vr b0), (1, vi 1), (2, vi i9), (3, vr o), (4, vr bu), (5, vr r), (6, vr f), (7, vr bf), (8, vi dn), (9, vi n), (10, vr g9), (11, vi 1), (12, vi (-3)), (13, vi (D 3)), (14, vi p), (15, vi x), (16, vi y), (17, vi 1), (18, vi (pN D p)), (19, vi pl), (20, vr shq), (21, vi z5), (22, vi 0)]) (st2 := [vi (-3), vi (-3)]) kL_law_597 rfl ?_
            refine AQ.of (AS.ic_ne_f eL_law_599 ⟨by decide, by decide⟩ ⟨by decide, by decide⟩ rfl (by decide)) ?_
            refine q_blk (lv2 := [(0, vr b0), (1, vi 1), (2, vi i9), (3, vr o), (4, vr bu), (5, vr r), (6, vr f), (7, vr bf), (8, vi dn), (9, vi n), (10, vr g9), (11, vi 1), (12, vi (-3)), (13, vi (D 3)), (14, vi p), (15, vi x), (16, vi y), (17, vi 1), (18, vi (pN D p)), (19, vi pl), (20, vr shq), (21, vi z5), (22, vi 0)]) (st2 := [vi 1]) kL_law_602 rfl ?_
            refine q_goto (tgt := 607) eL_law_603 (by decide) ?_
            refine q_blk (lv2 := [(0, vr b0), (1, vi 1), (2, vi i9), (3, vr o), (4, vr bu), (5, vr r), (6, vr f), (7, vr bf), (8, vi dn), (9, vi n), (10, vr g9), (11, vi 1), (12, vi (-3)), (13, vi (D 3)), (14, vi p), (15, vi x), (16, vi y), (17, vi 1), (18, vi (pN D p)), (19, vi pl), (20, vr shq), (21, vi z5), (22, vi 0)]) (st2 := []) kL_law_607 rfl ?_
            refine q_goto (tgt := 1123) eL_law_608 (by decide) ?_
            refine q_sub (lv2 := [(0, vr b0), (1, vi 1), (2, vi i9), (3, vr o), (4, vr bu), (5, vr r), (6, vr f), (7, vr bf), (8, vi dn), (9, vi n), (10, vr g9), (11, vi 1)]) [0, 1, 2, 3, 4, 5, 6, 7, 8, 9, 10, 11] rfl ?_
            exact kk 1 h26 z24R ⟨by omega, by omega⟩
          · skip
            refine AQ.of (AS.if_ne_f eL_law_535 ⟨by decide, by decide⟩ (by decide) (by decide)) ?_
            refine q_blk (lv2 := [(0, vr b0), (1, vi 1), (2, vi i9), (3, vr o), (4, vr bu), (5, vr r), (6, vr f), (7, vr bf), (8, vi dn), (9, vi n), (10, vr g9), (11, vi 1), (12, vi (-2000000099)), (13, vi (D 3)), (14, vi p), (15, vi x), (16, vi y), (17, vi 1), (18, vi (pN D p)), (19, vi pl), (20, vr shq), (21, vi z5)]) (st2 := [vi y, vi x, vr f]) kL_law_538 rfl ?_
            refine q_Vi (av := [vi x, vi y]) (st := []) (c_X9_isOnSide g8i.1.2.1 g8i.1.2.2.1.1 g8i.1.1.1.2.2.2.2.2.1.2.1 (x := x) (y := y) ⟨by omega, by omega⟩ ⟨by omega, by omega⟩) lk_RL_166 (by omega) rfl rfl g8i.1.2.1.ob ⟨_, rfl, rfl⟩ (Nat.le_of_ble_eq_true rfl) eL_law_544 (fun z27 e28 => ?_)
            rcases e28 with ⟨rfl, e28⟩ | ⟨rfl, e28⟩
            · skip
              refine AQ.of (AS.if_ne_t (tgt := 554) eL_law_547 (by decide) ⟨by decide, by decide⟩ (by decide)) ?_
              refine q_blk (lv2 := [(0, vr b0), (1, vi 1), (2, vi i9), (3, vr o), (4, vr bu), (5, vr r), (6, vr f), (7, vr bf), (8, vi dn), (9, vi n), (10, vr g9), (11, vi 1), (12, vi (-2000000099)), (13, vi (D 3)), (14, vi p), (15, vi x), (16, vi y), (17, vi 1), (18, vi (pN D p)), (19, vi pl), (20, vr shq), (21, vi z5)]) (st2 := [vi 0]) kL_law_554 rfl ?_
              refine q_blk (lv2 := [(0, vr b0), (1, vi 1), (2, vi i9), (3, vr o), (4, vr bu), (5, vr r), (6, vr f), (7, vr bf), (8, vi dn), (9, vi n), (10, vr g9), (11, vi 1), (12, vi (-2000000099)), (13, vi (D 3)), (14, vi p), (15, vi x), (16, vi y), (17, vi 1), (18, vi (pN D p)), (19, vi pl), (20, vr shq), (21, vi z5), (22, vi 0)]) (st2 := [vi 0]) kL_law_555 rfl ?_
              refine AQ.of (AS.if_eq_t (tgt := 567) eL_law_559 (by decide) ⟨by decide, by decide⟩ (by decide)) ?_
              refine q_blk (lv2 := [(0, vr b0), (1, vi 1), (2, vi i9), (3, vr o), (4, vr bu), (5, vr r), (6, vr f), (7, vr bf), (8, vi dn), (9, vi n), (10, vr g9), (11, vi 1), (12, vi (-2000000099)), (13, vi (D 3)), (14, vi p), (15, vi x), (16, vi y), (17, vi 1), (18, vi (pN D p)), (19, vi pl), (20, vr shq), (21, vi z5), (22, vi 0)]) (st2 := [vi (-3)]) kL_law_567 rfl ?_
              refine q_blk (lv2 := [(0, vr b0), (1, vi 1), (2, vi i9), (3, vr o), (4, vr bu), (5, vr r), (6, vr f), (7, vr bf), (8, vi dn), (9, vi n), (10, vr g9), (11, vi 1), (12, vi (-3)), (13, vi (D 3)), (14, vi p), (15, vi x), (16, vi y), (17, vi 1), (18, vi (pN D p)), (19, vi pl), (20, vr shq), (21, vi z5), (22, vi 0)]) (st2 := [vi 0]) kL_law_569 rfl ?_
              refine AQ.of (AS.if_eq_t (tgt := 587) eL_law_573 (by decide) ⟨by decide, by decide⟩ (by decide)) ?_
              refine q_blk (lv2 := [(0, vr b0), (1, vi 1), (2, vi i9), (3, vr o), (4, vr bu), (5, vr r), (6, vr f), (7, vr bf), (8, vi dn), (9, vi n), (10, vr g9), (11, vi 1), (12, vi (-3)), (13, vi (D 3)), (14, vi p), (15, vi x), (16, vi y), (17, vi 1), (18, vi (pN D p)), (19, vi pl), (20, vr shq), (21, vi z5), (22, vi 0)]) (st2 := [vi y, vi x, vi z5, vr o]) kL_law_587 rfl ?_
              refine AQ.callWi (av := [vr o, vi z5, vi x, vi y]) (st := []) (c_L_begin (c_X8_begin (MID.inc g8i).1.1 ⟨by omega, by omega⟩ ⟨by omega, by omega⟩ ⟨by omega, by omega⟩) (MID.inc g8i).1.1.ob (fun k h1 q => by rcases q.1 with ⟨_, e⟩ | ⟨_, (⟨_, e⟩ | ⟨_, (⟨_, e⟩ | ⟨_, e⟩)⟩)⟩ <;> first | (cases e; first | exact Or.inl rfl | exact Or.inr rfl) | exact e.elim)) lkw_L_begin (by omega) rfl rfl (Nat.le_of_ble_eq_true rfl) eL_law_594 (fun z29 h31 e30 => ?_)
              obtain ⟨-, D9, cm9, z29g, z29c, z29k⟩ := gx_ok (fun k q => by rcases q with ⟨a, e⟩ | ⟨_, (⟨a, e⟩ | ⟨_, (⟨a, e⟩ | ⟨a, e⟩)⟩)⟩ <;> first | omega | exact e.elim) e30
              obtain ⟨-, z29e, z29D⟩ := z29g.resolve_right (fun z => z.1 (Or.inr e28))
              obtain rfl := z29D.symm
              obtain rfl : z29 = (-3) := z29e
              have z29R := (MID.inc g8i).go z29c z29k
              obtain ⟨⟨z291, z292, z293, z294⟩, -⟩ := z29k
              refine q_blk (lv2 := [(0, vr b0), (1, vi 1), (2, vi i9), (3, vr o), (4, vr bu), (5, vr r), (6, vr f), (7, vr bf), (8, vi dn), (9, vi n), (10, vr g9), (11, vi 1), (12, vi (-3)), (13, vi (D 3)), (14, vi p), (15, vi x), (16, vi y), (17, vi 1), (18, vi (pN D p)), (19, vi pl), (20, vr shq), (21, vi z5), (22, vi 0)]) (st2 := [vi (-3), vi (-3)]) kL_law_597 rfl ?_
              refine AQ.of (AS.ic_ne_f eL_law_599 ⟨by decide, by decide⟩ ⟨by decide, by decide⟩ rfl (by decide)) ?_
              refine q_blk (lv2 := [(0, vr b0), (1, vi 1), (2, vi i9), (3, vr o), (4, vr bu), (5, vr r), (6, vr f), (7, vr bf), (8, vi dn), (9, vi n), (10, vr g9), (11, vi 1), (12, vi (-3)), (13, vi (D 3)), (14, vi p), (15, vi x), (16, vi y), (17, vi 1), (18, vi (pN D p)), (19, vi pl), (20, vr shq), (21, vi z5), (22, vi 0)]) (st2 := [vi 1]) kL_law_602 rfl ?_
              refine q_goto (tgt := 607) eL_law_603 (by decide) ?_
              refine q_blk (lv2 := [(0, vr b0), (1, vi 1), (2, vi i9), (3, vr o), (4, vr bu), (5, vr r), (6, vr f), (7, vr bf), (8, vi dn), (9, vi n), (10, vr g9), (11, vi 1), (12, vi (-3)), (13, vi (D 3)), (14, vi p), (15, vi x), (16, vi y), (17, vi 1), (18, vi (pN D p)), (19, vi pl), (20, vr shq), (21, vi z5), (22, vi 0)]) (st2 := []) kL_law_607 rfl ?_
              refine q_goto (tgt := 1123) eL_law_608 (by decide) ?_
              refine q_sub (lv2 := [(0, vr b0), (1, vi 1), (2, vi i9), (3, vr o), (4, vr bu), (5, vr r), (6, vr f), (7, vr bf), (8, vi dn), (9, vi n), (10, vr g9), (11, vi 1)]) [0, 1, 2, 3, 4, 5, 6, 7, 8, 9, 10, 11] rfl ?_
              exact kk 1 h31 z29R ⟨by omega, by omega⟩
            · skip
              refine AQ.of (AS.if_ne_f eL_law_547 ⟨by decide, by decide⟩ (by decide) (by decide)) ?_
              refine q_blk (lv2 := [(0, vr b0), (1, vi 1), (2, vi i9), (3, vr o), (4, vr bu), (5, vr r), (6, vr f), (7, vr bf), (8, vi dn), (9, vi n), (10, vr g9), (11, vi 1), (12, vi (-2000000099)), (13, vi (D 3)), (14, vi p), (15, vi x), (16, vi y), (17, vi 1), (18, vi (pN D p)), (19, vi pl), (20, vr shq), (21, vi z5)]) (st2 := [vi 1]) kL_law_550 rfl ?_
              refine q_goto (tgt := 555) eL_law_551 (by decide) ?_
              refine q_blk (lv2 := [(0, vr b0), (1, vi 1), (2, vi i9), (3, vr o), (4, vr bu), (5, vr r), (6, vr f), (7, vr bf), (8, vi dn), (9, vi n), (10, vr g9), (11, vi 1), (12, vi (-2000000099)), (13, vi (D 3)), (14, vi p), (15, vi x), (16, vi y), (17, vi 1), (18, vi (pN D p)), (19, vi pl), (20, vr shq), (21, vi z5), (22, vi 1)]) (st2 := [vi 1]) kL_law_555 rfl ?_
              refine AQ.of (AS.if_eq_f eL_law_559 ⟨by decide, by decide⟩ (by decide) (by decide)) ?_
              refine q_blk (lv2 := [(0, vr b0), (1, vi 1), (2, vi i9), (3, vr o), (4, vr bu), (5, vr r), (6, vr f), (7, vr bf), (8, vi dn), (9, vi n), (10, vr g9), (11, vi 1), (12, vi (-2000000099)), (13, vi (D 3)), (14, vi p), (15, vi x), (16, vi y), (17, vi 1), (18, vi (pN D p)), (19, vi pl), (20, vr shq), (21, vi z5), (22, vi 1)]) (st2 := [vi (D 3)]) kL_law_562 rfl ?_
              refine q_goto (tgt := 569) eL_law_564 (by decide) ?_
              refine q_blk (lv2 := [(0, vr b0), (1, vi 1), (2, vi i9), (3, vr o), (4, vr bu), (5, vr r), (6, vr f), (7, vr bf), (8, vi dn), (9, vi n), (10, vr g9), (11, vi 1), (12, vi (D 3)), (13, vi (D 3)), (14, vi p), (15, vi x), (16, vi y), (17, vi 1), (18, vi (pN D p)), (19, vi pl), (20, vr shq), (21, vi z5), (22, vi 1)]) (st2 := [vi 1]) kL_law_569 rfl ?_
              refine AQ.of (AS.if_eq_f eL_law_573 ⟨by decide, by decide⟩ (by decide) (by decide)) ?_
              refine q_blk (lv2 := [(0, vr b0), (1, vi 1), (2, vi i9), (3, vr o), (4, vr bu), (5, vr r), (6, vr f), (7, vr bf), (8, vi dn), (9, vi n), (10, vr g9), (11, vi 1), (12, vi (D 3)), (13, vi (D 3)), (14, vi p), (15, vi x), (16, vi y), (17, vi 1), (18, vi (pN D p)), (19, vi pl), (20, vr shq), (21, vi z5), (22, vi 1)]) (st2 := [vi y, vi x, vi z5, vr f]) kL_law_576 rfl ?_
              refine AQ.callVv (av := [vi z5, vi x, vi y]) (st := []) (c_X9_add g8i.1.2.1 g8i.1.2.2.1.1 (by omega) (o := z5) (x := x) (y := y) ⟨by omega, by omega⟩ ⟨by omega, by omega⟩ (fun q b => b.1.2)) lk_RL_173 (by omega) rfl rfl g8i.1.2.1.ob ⟨_, rfl, rfl⟩ (Nat.le_of_ble_eq_true rfl) eL_law_584 (fun h34 e33 => ?_)
              obtain ⟨⟨g35t, g35gk, g35z, g35F, g35p, g35q, g35w⟩, g35k⟩ := e33
              have g35M := g8i.op (E := (gm_stP D z5 x y)) g35k (fun q z => Or.inl z) g35F (g8i.1.2.2.1.stP (by omega) ⟨by omega, by omega⟩ ⟨by omega, by omega⟩ ⟨by omega, by omega⟩ (fun z => z.elim e18 e23)) (fun q m => m.elim (fun a => Or.inl (Or.inl a)) fun ⟨p, p0, p1, a⟩ => by rw [gm_stP_3] at p1; exact (show p = D 3 ∨ p < D 3 by omega).elim (fun c => by subst c; rw [g35q] at a; cases a; exact Or.inr g35w) (fun c => Or.inl (Or.inr ⟨p, p0, c, by rw [← g35p p p0 c]; exact a⟩)))
              obtain ⟨-, ⟨g35a, g35b⟩, g35c, g35d⟩ := id g35k
              refine q_blk (lv2 := [(0, vr b0), (1, vi 1), (2, vi i9), (3, vr o), (4, vr bu), (5, vr r), (6, vr f), (7, vr bf), (8, vi dn), (9, vi n), (10, vr g9), (11, vi 1), (12, vi (D 3)), (13, vi (D 3)), (14, vi p), (15, vi x), (16, vi y), (17, vi 1), (18, vi (pN D p)), (19, vi pl), (20, vr shq), (21, vi z5), (22, vi 1)]) (st2 := [vi y, vi x, vi z5, vr o]) kL_law_587 rfl ?_
              refine AQ.callWi (av := [vr o, vi z5, vi x, vi y]) (st := []) (c_L_begin (c_X8_begin g35M.1.1 ⟨by omega, by omega⟩ ⟨by omega, by omega⟩ ⟨by omega, by omega⟩) g35M.1.1.ob (fun k h1 q => by rcases q.1 with ⟨_, e⟩ | ⟨_, (⟨_, e⟩ | ⟨_, (⟨_, e⟩ | ⟨_, e⟩)⟩)⟩ <;> first | (cases e; first | exact Or.inl rfl | exact Or.inr rfl) | exact e.elim)) lkw_L_begin (by omega) rfl rfl (Nat.le_of_ble_eq_true rfl) eL_law_594 (fun z36 h38 e37 => ?_)
              obtain ⟨-, D9, cm9, z36g, z36c, z36k⟩ := gx_ok (fun k q => by rcases q with ⟨a, e⟩ | ⟨_, (⟨a, e⟩ | ⟨_, (⟨a, e⟩ | ⟨a, e⟩)⟩)⟩ <;> first | omega | exact e.elim) e37
              obtain ⟨-, z36e, rfl⟩ := z36g.resolve_left (fun z => (fun z => z.elim (fun z => z.elim e18 e23) e28) z.1)
              obtain rfl : z36 = (D 3) := z36e
              have z36R := g35M.go z36c z36k
              obtain ⟨⟨z361, z362, z363, z364⟩, -⟩ := z36k
              refine q_blk (lv2 := [(0, vr b0), (1, vi 1), (2, vi i9), (3, vr o), (4, vr bu), (5, vr r), (6, vr f), (7, vr bf), (8, vi dn), (9, vi n), (10, vr g9), (11, vi 1), (12, vi (D 3)), (13, vi (D 3)), (14, vi p), (15, vi x), (16, vi y), (17, vi 1), (18, vi (pN D p)), (19, vi pl), (20, vr shq), (21, vi z5), (22, vi 1)]) (st2 := [vi (D 3), vi (D 3)]) kL_law_597 rfl ?_
              refine AQ.of (AS.ic_ne_f eL_law_599 (by first | assumption | exact ⟨by omega, by omega⟩ | exact ⟨by decide, by decide⟩) (by first | assumption | exact ⟨by omega, by omega⟩ | exact ⟨by decide, by decide⟩) rfl (by decide)) ?_
              refine q_blk (lv2 := [(0, vr b0), (1, vi 1), (2, vi i9), (3, vr o), (4, vr bu), (5, vr r), (6, vr f), (7, vr bf), (8, vi dn), (9, vi n), (10, vr g9), (11, vi 1), (12, vi (D 3)), (13, vi (D 3)), (14, vi p), (15, vi x), (16, vi y), (17, vi 1), (18, vi (pN D p)), (19, vi pl), (20, vr shq), (21, vi z5), (22, vi 1)]) (st2 := [vi 1]) kL_law_602 rfl ?_
              refine q_goto (tgt := 607) eL_law_603 (by decide) ?_
              refine q_blk (lv2 := [(0, vr b0), (1, vi 1), (2, vi i9), (3, vr o), (4, vr bu), (5, vr r), (6, vr f), (7, vr bf), (8, vi dn), (9, vi n), (10, vr g9), (11, vi 1), (12, vi (D 3)), (13, vi (D 3)), (14, vi p), (15, vi x), (16, vi y), (17, vi 1), (18, vi (pN D p)), (19, vi pl), (20, vr shq), (21, vi z5), (22, vi 1)]) (st2 := []) kL_law_607 rfl ?_
              refine q_goto (tgt := 1123) eL_law_608 (by decide) ?_
              refine q_sub (lv2 := [(0, vr b0), (1, vi 1), (2, vi i9), (3, vr o), (4, vr bu), (5, vr r), (6, vr f), (7, vr bf), (8, vi dn), (9, vi n), (10, vr g9), (11, vi 1)]) [0, 1, 2, 3, 4, 5, 6, 7, 8, 9, 10, 11] rfl ?_
              exact kk 1 h38 z36R ⟨by omega, by omega⟩
  refine AQ.if_ne (tgt := 468) eL_law_461 (by decide) (by first | assumption | exact ⟨by omega, by omega⟩ | exact ⟨by decide, by decide⟩) (fun br39 => ?_) (fun br39 => ?_)
  · skip
    refine q_blk (lv2 := [(0, vr b0), (1, vi 1), (2, vi i9), (3, vr o), (4, vr bu), (5, vr r), (6, vr f), (7, vr bf), (8, vi dn), (9, vi n), (10, vr g9), (11, vi 1), (12, vi (-2000000097)), (13, vi (D 3)), (14, vi p), (15, vi x), (16, vi y), (17, vi 1), (18, vi (pN D p)), (19, vi pl), (20, vr shq)]) (st2 := [vi 4, vr r]) kL_law_468 rfl ?_
    exact jn469 4 (by omega)
  · skip
    refine q_blk (lv2 := [(0, vr b0), (1, vi 1), (2, vi i9), (3, vr o), (4, vr bu), (5, vr r), (6, vr f), (7, vr bf), (8, vi dn), (9, vi n), (10, vr g9), (11, vi 1), (12, vi (-2000000097)), (13, vi (D 3)), (14, vi p), (15, vi x), (16, vi y), (17, vi 1), (18, vi (pN D p)), (19, vi pl), (20, vr shq)]) (st2 := [vi 5, vr r]) kL_law_464 rfl ?_
    refine q_goto (tgt := 469) eL_law_465 (by decide) ?_
    exact jn469 5 (by omega)

set_option maxRecDepth 4000 in
set_option maxHeartbeats 8000000 in
theorem sg_beg0 {nm : String} {TT : List (Nat × Nat × Nat × Nat)} {w : am_w} {d b0 : Nat} {i9 dn n : Int} {Q : RV → AH → Prop} {h : AH} {o bu r bf f sa pa : Nat} {gs gp : Int → Option Nat} {T : Option Nat} {L : GL} {D cm : Int → Int} {sc : Nat} {tx : Int → Int} {bl le : Int} {Hs H1 : List GE} {g9 : Nat} {pl p x y : Int} (hd : 90 ≤ d) (hI : INC w o bu r bf f sa pa gs gp T L h D cm sc tx bl le Hs H1 g9) (hp : p = D 3) (hpl : 0 ≤ pl ∧ pl ≤ 30) (hxx : 0 ≤ x ∧ x ≤ D 0) (hyy : 0 ≤ y ∧ y ≤ D 1) (kk : ∀ (ch : Int) (h1 : AH), RES w o bu r bf f sa gs T L h1 D cm sc tx bl le Hs H1 g9 ch → (h1.2.1 ≤ h.2.1 + 16 ∧ h1.2.2 ≤ h.2.2 + 40) → AQ w (mL nm TT) d 1123 [(0, vr b0), (1, vi 1), (2, vi i9), (3, vr o), (4, vr bu), (5, vr r), (6, vr f), (7, vr bf), (8, vi dn), (9, vi n), (10, vr g9), (11, vi ch)] [] h1 Q)  : AQ w (mL nm TT) d 452 [(0, vr b0), (1, vi 1), (2, vi i9), (3, vr o), (4, vr bu), (5, vr r), (6, vr f), (7, vr bf), (8, vi dn), (9, vi n), (10, vr g9), (11, vi 1), (12, vi (-2000000097)), (13, vi (D 3)), (14, vi p), (15, vi x), (16, vi y), (17, vi 0), (18, vi 0), (19, vi pl)] [] h Q := by
  have hD := hI.1.2.2.1.1
  have d0 := hD.1
  have d1 := hD.2.1
  have d2 := hD.2.2.1
  have d3 := hD.2.2.2.1
  refine q_blk (lv2 := [(0, vr b0), (1, vi 1), (2, vi i9), (3, vr o), (4, vr bu), (5, vr r), (6, vr f), (7, vr bf), (8, vi dn), (9, vi n), (10, vr g9), (11, vi 1), (12, vi (-2000000097)), (13, vi (D 3)), (14, vi p), (15, vi x), (16, vi y), (17, vi 0), (18, vi 0), (19, vi pl)]) (st2 := [vi 9, vr r, vr r]) kL_law_452 rfl ?_
  refine AQ.callVi (av := [vi 9]) (st := [vr r]) (c_X11_below hI.1.2.2.2.1.1 hI.1.2.2.2.1.2.1.2.1 (b := 9) (by omega) (by omega)) lk_RL_132 (by omega) rfl rfl hI.1.2.2.2.1.1.ob ⟨_, rfl, rfl⟩ (Nat.le_of_ble_eq_true rfl) eL_law_458 (fun z1 h3 e2 => ?_)
  obtain ⟨⟨z1a, z1b⟩, g4r, g4k⟩ := e2
  have g4i := hI.kr g4k g4r
  obtain ⟨-, ⟨g4a, g4b⟩, g4y, g4z⟩ := id g4k
  have jn469 : ∀ (u : Int), (u = 4 ∨ u = 5) → AQ w (mL nm TT) d 469 [(0, vr b0), (1, vi 1), (2, vi i9), (3, vr o), (4, vr bu), (5, vr r), (6, vr f), (7, vr bf), (8, vi dn), (9, vi n), (10, vr g9), (11, vi 1), (12, vi (-2000000097)), (13, vi (D 3)), (14, vi p), (15, vi x), (16, vi y), (17, vi 0), (18, vi 0), (19, vi pl)] [vi u, vr r] h3 (Q) := by
    intro u hj
    refine AQ.callVi (av := [vi u]) (st := []) (c_X11_below g4i.1.2.2.2.1.1 g4i.1.2.2.2.1.2.1.2.1 (b := u) (by omega) (by omega)) lk_RL_132 (by omega) rfl rfl g4i.1.2.2.2.1.1.ob ⟨_, rfl, rfl⟩ (Nat.le_of_ble_eq_true rfl) eL_law_469 (fun z5 h7 e6 => ?_)
    obtain ⟨⟨z5a, z5b⟩, g8r, g8k⟩ := e6
    have g8i := g4i.kr g8k g8r
    obtain ⟨-, ⟨g8a, g8b⟩, g8y, g8z⟩ := id g8k
    refine q_blk (lv2 := [(0, vr b0), (1, vi 1), (2, vi i9), (3, vr o), (4, vr bu), (5, vr r), (6, vr f), (7, vr bf), (8, vi dn), (9, vi n), (10, vr g9), (11, vi 1), (12, vi (-2000000097)), (13, vi (D 3)), (14, vi p), (15, vi x), (16, vi y), (17, vi 0), (18, vi 0), (19, vi pl), (21, vi z5)]) (st2 := [vi 4, vi z5]) kL_law_472 rfl ?_
    refine AQ.ic_ge (tgt := 491) eL_law_477 (by decide) (by first | assumption | exact ⟨by omega, by omega⟩ | exact ⟨by decide, by decide⟩) ⟨by decide, by decide⟩ (fun br9 => ?_) (fun br9 => ?_)
    · skip
      refine q_blk (lv2 := [(0, vr b0), (1, vi 1), (2, vi i9), (3, vr o), (4, vr bu), (5, vr r), (6, vr f), (7, vr bf), (8, vi dn), (9, vi n), (10, vr g9), (11, vi 1), (12, vi (-2000000097)), (13, vi (D 3)), (14, vi p), (15, vi x), (16, vi y), (17, vi 0), (18, vi 0), (19, vi pl), (21, vi z5)]) (st2 := [vi 0]) kL_law_491 rfl ?_
      refine q_blk (lv2 := [(0, vr b0), (1, vi 1), (2, vi i9), (3, vr o), (4, vr bu), (5, vr r), (6, vr f), (7, vr bf), (8, vi dn), (9, vi n), (10, vr g9), (11, vi 0), (12, vi (-2000000097)), (13, vi (D 3)), (14, vi p), (15, vi x), (16, vi y), (17, vi 0), (18, vi 0), (19, vi pl), (21, vi z5)]) (st2 := [vi 3, vi z5]) kL_law_492 rfl ?_
      refine AQ.of (AS.ic_le_f eL_law_497 (by first | assumption | exact ⟨by omega, by omega⟩ | exact ⟨by decide, by decide⟩) ⟨by decide, by decide⟩ (by omega) (by decide)) ?_
      refine AQ.of (AS.ldc (z := (-2000000098)) eL_law_500 (show Cond.constant RL 42 (Int32.ofInt (-2000000098)) ∈ GW from am_gw 1022 (by decide +kernel) (by decide +kernel))) ?_
      refine q_goto (tgt := 507) eL_law_502 (by decide) ?_
      refine q_blk (lv2 := [(0, vr b0), (1, vi 1), (2, vi i9), (3, vr o), (4, vr bu), (5, vr r), (6, vr f), (7, vr bf), (8, vi dn), (9, vi n), (10, vr g9), (11, vi 0), (12, vi (-2000000098)), (13, vi (D 3)), (14, vi p), (15, vi x), (16, vi y), (17, vi 0), (18, vi 0), (19, vi pl), (21, vi z5)]) (st2 := [vi 0]) kL_law_507 rfl ?_
      refine AQ.of (AS.if_eq_t (tgt := 587) eL_law_511 (by decide) ⟨by decide, by decide⟩ (by decide)) ?_
      refine q_blk (lv2 := [(0, vr b0), (1, vi 1), (2, vi i9), (3, vr o), (4, vr bu), (5, vr r), (6, vr f), (7, vr bf), (8, vi dn), (9, vi n), (10, vr g9), (11, vi 0), (12, vi (-2000000098)), (13, vi (D 3)), (14, vi p), (15, vi x), (16, vi y), (17, vi 0), (18, vi 0), (19, vi pl), (21, vi z5)]) (st2 := [vi y, vi x, vi z5, vr o]) kL_law_587 rfl ?_
      refine AQ.callWi (av := [vr o, vi z5, vi x, vi y]) (st := []) (c_L_begin (c_X8_begin (MID.inc g8i).1.1 ⟨by omega, by omega⟩ ⟨by omega, by omega⟩ ⟨by omega, by omega⟩) (MID.inc g8i).1.1.ob (fun k h1 q => by rcases q.1 with ⟨_, e⟩ | ⟨_, (⟨_, e⟩ | ⟨_, (⟨_, e⟩ | ⟨_, e⟩)⟩)⟩ <;> first | (cases e; first | exact Or.inl rfl | exact Or.inr rfl) | exact e.elim)) lkw_L_begin (by omega) rfl rfl (Nat.le_of_ble_eq_true rfl) eL_law_594 (fun z10 h12 e11 => ?_)
      obtain ⟨z10e, z10h⟩ := gx_th (k0 := 0) (fun q => by have := q.1; omega) (fun k q => by rcases q with ⟨a, e⟩ | ⟨_, (⟨a, e⟩ | ⟨_, (⟨a, e⟩ | ⟨a, e⟩)⟩)⟩ <;> first | (cases e; first | rfl | omega) | exact e.elim) e11
      subst z10h
      obtain rfl : z10 = (-2000000098) := z10e
      have z10t : (gm_thr h7).2.1 = h7.2.1 + 1 := rfl
      have z10s : (gm_thr h7).2.2 = h7.2.2 + 6 := rfl
      refine q_blk (lv2 := [(0, vr b0), (1, vi 1), (2, vi i9), (3, vr o), (4, vr bu), (5, vr r), (6, vr f), (7, vr bf), (8, vi dn), (9, vi n), (10, vr g9), (11, vi 0), (12, vi (-2000000098)), (13, vi (D 3)), (14, vi p), (15, vi x), (16, vi y), (17, vi 0), (18, vi 0), (19, vi pl), (21, vi z5)]) (st2 := [vi (-2000000098), vi (-2000000098)]) kL_law_597 rfl ?_
      refine AQ.of (AS.ic_ne_f eL_law_599 ⟨by decide, by decide⟩ ⟨by decide, by decide⟩ rfl (by decide)) ?_
      refine q_blk (lv2 := [(0, vr b0), (1, vi 1), (2, vi i9), (3, vr o), (4, vr bu), (5, vr r), (6, vr f), (7, vr bf), (8, vi dn), (9, vi n), (10, vr g9), (11, vi 0), (12, vi (-2000000098)), (13, vi (D 3)), (14, vi p), (15, vi x), (16, vi y), (17, vi 0), (18, vi 0), (19, vi pl), (21, vi z5)]) (st2 := [vi 1]) kL_law_602 rfl ?_
      refine q_goto (tgt := 607) eL_law_603 (by decide) ?_
      refine q_blk (lv2 := [(0, vr b0), (1, vi 1), (2, vi i9), (3, vr o), (4, vr bu), (5, vr r), (6, vr f), (7, vr bf), (8, vi dn), (9, vi n), (10, vr g9), (11, vi 0), (12, vi (-2000000098)), (13, vi (D 3)), (14, vi p), (15, vi x), (16, vi y), (17, vi 0), (18, vi 0), (19, vi pl), (21, vi z5)]) (st2 := []) kL_law_607 rfl ?_
      refine q_goto (tgt := 1123) eL_law_608 (by decide) ?_
      refine q_sub (lv2 := [(0, vr b0), (1, vi 1), (2, vi i9), (3, vr o), (4, vr bu), (5, vr r), (6, vr f), (7, vr bf), (8, vi dn), (9, vi n), (10, vr g9), (11, vi 0)]) [0, 1, 2, 3, 4, 5, 6, 7, 8, 9, 10, 11] rfl ?_
      exact kk 0 (gm_thr h7) (RES.no g8i) ⟨by omega, by omega⟩
    · skip
      refine q_blk (lv2 := [(0, vr b0), (1, vi 1), (2, vi i9), (3, vr o), (4, vr bu), (5, vr r), (6, vr f), (7, vr bf), (8, vi dn), (9, vi n), (10, vr g9), (11, vi 1), (12, vi (-2000000097)), (13, vi (D 3)), (14, vi p), (15, vi x), (16, vi y), (17, vi 0), (18, vi 0), (19, vi pl), (21, vi z5)]) (st2 := [vi 6, vi (D 3)]) kL_law_480 rfl ?_
      refine AQ.ic_ge (tgt := 491) eL_law_484 (by decide) (by first | assumption | exact ⟨by omega, by omega⟩ | exact ⟨by decide, by decide⟩) ⟨by decide, by decide⟩ (fun br13 => ?_) (fun br13 => ?_)
      · skip
        refine q_blk (lv2 := [(0, vr b0), (1, vi 1), (2, vi i9), (3, vr o), (4, vr bu), (5, vr r), (6, vr f), (7, vr bf), (8, vi dn), (9, vi n), (10, vr g9), (11, vi 1), (12, vi (-2000000097)), (13, vi (D 3)), (14, vi p), (15, vi x), (16, vi y), (17, vi 0), (18, vi 0), (19, vi pl), (21, vi z5)]) (st2 := [vi 0]) kL_law_491 rfl ?_
        refine q_blk (lv2 := [(0, vr b0), (1, vi 1), (2, vi i9), (3, vr o), (4, vr bu), (5, vr r), (6, vr f), (7, vr bf), (8, vi dn), (9, vi n), (10, vr g9), (11, vi 0), (12, vi (-2000000097)), (13, vi (D 3)), (14, vi p), (15, vi x), (16, vi y), (17, vi 0), (18, vi 0), (19, vi pl), (21, vi z5)]) (st2 := [vi 3, vi z5]) kL_law_492 rfl ?_
        refine AQ.of (AS.ic_le_t (tgt := 505) eL_law_497 (by decide) (by first | assumption | exact ⟨by omega, by omega⟩ | exact ⟨by decide, by decide⟩) ⟨by decide, by decide⟩ (by omega)) ?_
        refine AQ.of (AS.ldc (z := (-2000000099)) eL_law_505 (show Cond.constant RL 71 (Int32.ofInt (-2000000099)) ∈ GW from am_gw 1118 (by decide +kernel) (by decide +kernel))) ?_
        refine q_blk (lv2 := [(0, vr b0), (1, vi 1), (2, vi i9), (3, vr o), (4, vr bu), (5, vr r), (6, vr f), (7, vr bf), (8, vi dn), (9, vi n), (10, vr g9), (11, vi 0), (12, vi (-2000000099)), (13, vi (D 3)), (14, vi p), (15, vi x), (16, vi y), (17, vi 0), (18, vi 0), (19, vi pl), (21, vi z5)]) (st2 := [vi 0]) kL_law_507 rfl ?_
        refine AQ.of (AS.if_eq_t (tgt := 587) eL_law_511 (by decide) ⟨by decide, by decide⟩ (by decide)) ?_
        refine q_blk (lv2 := [(0, vr b0), (1, vi 1), (2, vi i9), (3, vr o), (4, vr bu), (5, vr r), (6, vr f), (7, vr bf), (8, vi dn), (9, vi n), (10, vr g9), (11, vi 0), (12, vi (-2000000099)), (13, vi (D 3)), (14, vi p), (15, vi x), (16, vi y), (17, vi 0), (18, vi 0), (19, vi pl), (21, vi z5)]) (st2 := [vi y, vi x, vi z5, vr o]) kL_law_587 rfl ?_
        refine AQ.callWi (av := [vr o, vi z5, vi x, vi y]) (st := []) (c_L_begin (c_X8_begin (MID.inc g8i).1.1 ⟨by omega, by omega⟩ ⟨by omega, by omega⟩ ⟨by omega, by omega⟩) (MID.inc g8i).1.1.ob (fun k h1 q => by rcases q.1 with ⟨_, e⟩ | ⟨_, (⟨_, e⟩ | ⟨_, (⟨_, e⟩ | ⟨_, e⟩)⟩)⟩ <;> first | (cases e; first | exact Or.inl rfl | exact Or.inr rfl) | exact e.elim)) lkw_L_begin (by omega) rfl rfl (Nat.le_of_ble_eq_true rfl) eL_law_594 (fun z14 h16 e15 => ?_)
        obtain ⟨z14e, z14h⟩ := gx_th (k0 := 3) (fun q => by have := q.1; omega) (fun k q => by rcases q with ⟨a, e⟩ | ⟨_, (⟨a, e⟩ | ⟨_, (⟨a, e⟩ | ⟨a, e⟩)⟩)⟩ <;> first | (cases e; first | rfl | omega) | exact e.elim) e15
        subst z14h
        obtain rfl : z14 = (-2000000099) := z14e
        have z14t : (gm_thr h7).2.1 = h7.2.1 + 1 := rfl
        have z14s : (gm_thr h7).2.2 = h7.2.2 + 6 := rfl
        refine q_blk (lv2 := [(0, vr b0), (1, vi 1), (2, vi i9), (3, vr o), (4, vr bu), (5, vr r), (6, vr f), (7, vr bf), (8, vi dn), (9, vi n), (10, vr g9), (11, vi 0), (12, vi (-2000000099)), (13, vi (D 3)), (14, vi p), (15, vi x), (16, vi y), (17, vi 0), (18, vi 0), (19, vi pl), (21, vi z5)]) (st2 := [vi (-2000000099), vi (-2000000099)]) kL_law_597 rfl ?_
        refine AQ.of (AS.ic_ne_f eL_law_599 ⟨by decide, by decide⟩ ⟨by decide, by decide⟩ rfl (by decide)) ?_
        refine q_blk (lv2 := [(0, vr b0), (1, vi 1), (2, vi i9), (3, vr o), (4, vr bu), (5, vr r), (6, vr f), (7, vr bf), (8, vi dn), (9, vi n), (10, vr g9), (11, vi 0), (12, vi (-2000000099)), (13, vi (D 3)), (14, vi p), (15, vi x), (16, vi y), (17, vi 0), (18, vi 0), (19, vi pl), (21, vi z5)]) (st2 := [vi 1]) kL_law_602 rfl ?_
        refine q_goto (tgt := 607) eL_law_603 (by decide) ?_
        refine q_blk (lv2 := [(0, vr b0), (1, vi 1), (2, vi i9), (3, vr o), (4, vr bu), (5, vr r), (6, vr f), (7, vr bf), (8, vi dn), (9, vi n), (10, vr g9), (11, vi 0), (12, vi (-2000000099)), (13, vi (D 3)), (14, vi p), (15, vi x), (16, vi y), (17, vi 0), (18, vi 0), (19, vi pl), (21, vi z5)]) (st2 := []) kL_law_607 rfl ?_
        refine q_goto (tgt := 1123) eL_law_608 (by decide) ?_
        refine q_sub (lv2 := [(0, vr b0), (1, vi 1), (2, vi i9), (3, vr o), (4, vr bu), (5, vr r), (6, vr f), (7, vr bf), (8, vi dn), (9, vi n), (10, vr g9), (11, vi 0)]) [0, 1, 2, 3, 4, 5, 6, 7, 8, 9, 10, 11] rfl ?_
        exact kk 0 (gm_thr h7) (RES.no g8i) ⟨by omega, by omega⟩
      · skip
        refine q_blk (lv2 := [(0, vr b0), (1, vi 1), (2, vi i9), (3, vr o), (4, vr bu), (5, vr r), (6, vr f), (7, vr bf), (8, vi dn), (9, vi n), (10, vr g9), (11, vi 1), (12, vi (-2000000097)), (13, vi (D 3)), (14, vi p), (15, vi x), (16, vi y), (17, vi 0), (18, vi 0), (19, vi pl), (21, vi z5)]) (st2 := [vi 1]) kL_law_487 rfl ?_
        refine q_goto (tgt := 492) eL_law_488 (by decide) ?_
        refine q_blk (lv2 := [(0, vr b0), (1, vi 1), (2, vi i9), (3, vr o), (4, vr bu), (5, vr r), (6, vr f), (7, vr bf), (8, vi dn), (9, vi n), (10, vr g9), (11, vi 1), (12, vi (-2000000097)), (13, vi (D 3)), (14, vi p), (15, vi x), (16, vi y), (17, vi 0), (18, vi 0), (19, vi pl), (21, vi z5)]) (st2 := [vi 3, vi z5]) kL_law_492 rfl ?_
        refine AQ.of (AS.ic_le_t (tgt := 505) eL_law_497 (by decide) (by first | assumption | exact ⟨by omega, by omega⟩ | exact ⟨by decide, by decide⟩) ⟨by decide, by decide⟩ (by omega)) ?_
        refine AQ.of (AS.ldc (z := (-2000000099)) eL_law_505 (show Cond.constant RL 71 (Int32.ofInt (-2000000099)) ∈ GW from am_gw 1118 (by decide +kernel) (by decide +kernel))) ?_
        refine q_blk (lv2 := [(0, vr b0), (1, vi 1), (2, vi i9), (3, vr o), (4, vr bu), (5, vr r), (6, vr f), (7, vr bf), (8, vi dn), (9, vi n), (10, vr g9), (11, vi 1), (12, vi (-2000000099)), (13, vi (D 3)), (14, vi p), (15, vi x), (16, vi y), (17, vi 0), (18, vi 0), (19, vi pl), (21, vi z5)]) (st2 := [vi 1]) kL_law_507 rfl ?_
        refine AQ.of (AS.if_eq_f eL_law_511 ⟨by decide, by decide⟩ (by decide) (by decide)) ?_
        refine q_blk (lv2 := [(0, vr b0), (1, vi 1), (2, vi i9), (3, vr o), (4, vr bu), (5, vr r), (6, vr f), (7, vr bf), (8, vi dn), (9, vi n), (10, vr g9), (11, vi 1), (12, vi (-2000000099)), (13, vi (D 3)), (14, vi p), (15, vi x), (16, vi y), (17, vi 0), (18, vi 0), (19, vi pl), (21, vi z5)]) (st2 := [vi y, vi x, vr f]) kL_law_514 rfl ?_
        refine q_Vi (av := [vi x, vi y]) (st := []) (c_X9_isStone g8i.1.2.1 g8i.1.2.2.1.1  (x := x) (y := y) ⟨by omega, by omega⟩ ⟨by omega, by omega⟩) lk_RL_152 (by omega) rfl rfl g8i.1.2.1.ob ⟨_, rfl, rfl⟩ (Nat.le_of_ble_eq_true rfl) eL_law_520 (fun z17 e18 => ?_)
        rcases e18 with ⟨rfl, e18⟩ | ⟨rfl, e18⟩
        · skip
          refine AQ.of (AS.if_ne_t (tgt := 554) eL_law_523 (by decide) ⟨by decide, by decide⟩ (by decide)) ?_
          refine q_blk (lv2 := [(0, vr b0), (1, vi 1), (2, vi i9), (3, vr o), (4, vr bu), (5, vr r), (6, vr f), (7, vr bf), (8, vi dn), (9, vi n), (10, vr g9), (11, vi 1), (12, vi (-2000000099)), (13, vi (D 3)), (14, vi p), (15, vi x), (16, vi y), (17, vi 0), (18, vi 0), (19, vi pl), (21, vi z5)]) (st2 := [vi 0]) kL_law_554 rfl ?_
          refine q_blk (lv2 := [(0, vr b0), (1, vi 1), (2, vi i9), (3, vr o), (4, vr bu), (5, vr r), (6, vr f), (7, vr bf), (8, vi dn), (9, vi n), (10, vr g9), (11, vi 1), (12, vi (-2000000099)), (13, vi (D 3)), (14, vi p), (15, vi x), (16, vi y), (17, vi 0), (18, vi 0), (19, vi pl), (21, vi z5), (22, vi 0)]) (st2 := [vi 0]) kL_law_555 rfl ?_
          refine AQ.of (AS.if_eq_t (tgt := 567) eL_law_559 (by decide) ⟨by decide, by decide⟩ (by decide)) ?_
          refine q_blk (lv2 := [(0, vr b0), (1, vi 1), (2, vi i9), (3, vr o), (4, vr bu), (5, vr r), (6, vr f), (7, vr bf), (8, vi dn), (9, vi n), (10, vr g9), (11, vi 1), (12, vi (-2000000099)), (13, vi (D 3)), (14, vi p), (15, vi x), (16, vi y), (17, vi 0), (18, vi 0), (19, vi pl), (21, vi z5), (22, vi 0)]) (st2 := [vi (-3)]) kL_law_567 rfl ?_
          refine q_blk (lv2 := [(0, vr b0), (1, vi 1), (2, vi i9), (3, vr o), (4, vr bu), (5, vr r), (6, vr f), (7, vr bf), (8, vi dn), (9, vi n), (10, vr g9), (11, vi 1), (12, vi (-3)), (13, vi (D 3)), (14, vi p), (15, vi x), (16, vi y), (17, vi 0), (18, vi 0), (19, vi pl), (21, vi z5), (22, vi 0)]) (st2 := [vi 0]) kL_law_569 rfl ?_
          refine AQ.of (AS.if_eq_t (tgt := 587) eL_law_573 (by decide) ⟨by decide, by decide⟩ (by decide)) ?_
          refine q_blk (lv2 := [(0, vr b0), (1, vi 1), (2, vi i9), (3, vr o), (4, vr bu), (5, vr r), (6, vr f), (7, vr bf), (8, vi dn), (9, vi n), (10, vr g9), (11, vi 1), (12, vi (-3)), (13, vi (D 3)), (14, vi p), (15, vi x), (16, vi y), (17, vi 0), (18, vi 0), (19, vi pl), (21, vi z5), (22, vi 0)]) (st2 := [vi y, vi x, vi z5, vr o]) kL_law_587 rfl ?_
          refine AQ.callWi (av := [vr o, vi z5, vi x, vi y]) (st := []) (c_L_begin (c_X8_begin (MID.inc g8i).1.1 ⟨by omega, by omega⟩ ⟨by omega, by omega⟩ ⟨by omega, by omega⟩) (MID.inc g8i).1.1.ob (fun k h1 q => by rcases q.1 with ⟨_, e⟩ | ⟨_, (⟨_, e⟩ | ⟨_, (⟨_, e⟩ | ⟨_, e⟩)⟩)⟩ <;> first | (cases e; first | exact Or.inl rfl | exact Or.inr rfl) | exact e.elim)) lkw_L_begin (by omega) rfl rfl (Nat.le_of_ble_eq_true rfl) eL_law_594 (fun z19 h21 e20 => ?_)
          obtain ⟨-, D9, cm9, z19g, z19c, z19k⟩ := gx_ok (fun k q => by rcases q with ⟨a, e⟩ | ⟨_, (⟨a, e⟩ | ⟨_, (⟨a, e⟩ | ⟨a, e⟩)⟩)⟩ <;> first | omega | exact e.elim) e20
          obtain ⟨-, z19e, z19D⟩ := z19g.resolve_right (fun z => z.1 (Or.inl (Or.inl e18)))
          obtain rfl := z19D.symm
          obtain rfl : z19 = (-3) := z19e
          have z19R := (MID.inc g8i).go z19c z19k
          obtain ⟨⟨z191, z192, z193, z194⟩, -⟩ := z19k
          refine q_blk (lv2 := [(0, vr b0), (1, vi 1), (2, vi i9), (3, vr o), (4, vr bu), (5, vr r), (6, vr f), (7, vr bf), (8, vi dn), (9, vi n), (10, vr g9), (11, vi 1), (12, vi (-3)), (13, vi (D 3)), (14, vi p), (15, vi x), (16, vi y), (17, vi 0), (18, vi 0), (19, vi pl), (21, vi z5), (22, vi 0)]) (st2 := [vi (-3), vi (-3)]) kL_law_597 rfl ?_
          refine AQ.of (AS.ic_ne_f eL_law_599 ⟨by decide, by decide⟩ ⟨by decide, by decide⟩ rfl (by decide)) ?_
          refine q_blk (lv2 := [(0, vr b0), (1, vi 1), (2, vi i9), (3, vr o), (4, vr bu), (5, vr r), (6, vr f), (7, vr bf), (8, vi dn), (9, vi n), (10, vr g9), (11, vi 1), (12, vi (-3)), (13, vi (D 3)), (14, vi p), (15, vi x), (16, vi y), (17, vi 0), (18, vi 0), (19, vi pl), (21, vi z5), (22, vi 0)]) (st2 := [vi 1]) kL_law_602 rfl ?_
          refine q_goto (tgt := 607) eL_law_603 (by decide) ?_
          refine q_blk (lv2 := [(0, vr b0), (1, vi 1), (2, vi i9), (3, vr o), (4, vr bu), (5, vr r), (6, vr f), (7, vr bf), (8, vi dn), (9, vi n), (10, vr g9), (11, vi 1), (12, vi (-3)), (13, vi (D 3)), (14, vi p), (15, vi x), (16, vi y), (17, vi 0), (18, vi 0), (19, vi pl), (21, vi z5), (22, vi 0)]) (st2 := []) kL_law_607 rfl ?_
          refine q_goto (tgt := 1123) eL_law_608 (by decide) ?_
          refine q_sub (lv2 := [(0, vr b0), (1, vi 1), (2, vi i9), (3, vr o), (4, vr bu), (5, vr r), (6, vr f), (7, vr bf), (8, vi dn), (9, vi n), (10, vr g9), (11, vi 1)]) [0, 1, 2, 3, 4, 5, 6, 7, 8, 9, 10, 11] rfl ?_
          exact kk 1 h21 z19R ⟨by omega, by omega⟩
        · skip
          refine AQ.of (AS.if_ne_f eL_law_523 ⟨by decide, by decide⟩ (by decide) (by decide)) ?_
          refine q_blk (lv2 := [(0, vr b0), (1, vi 1), (2, vi i9), (3, vr o), (4, vr bu), (5, vr r), (6, vr f), (7, vr bf), (8, vi dn), (9, vi n), (10, vr g9), (11, vi 1), (12, vi (-2000000099)), (13, vi (D 3)), (14, vi p), (15, vi x), (16, vi y), (17, vi 0), (18, vi 0), (19, vi pl), (21, vi z5)]) (st2 := [vi y, vi x, vr f]) kL_law_526 rfl ?_
          refine q_Vi (av := [vi x, vi y]) (st := []) (c_X9_isCorner g8i.1.2.1 g8i.1.2.2.1.1  (x := x) (y := y) ⟨by omega, by omega⟩ ⟨by omega, by omega⟩) lk_RL_163 (by omega) rfl rfl g8i.1.2.1.ob ⟨_, rfl, rfl⟩ (Nat.le_of_ble_eq_true rfl) eL_law_532 (fun z22 e23 => ?_)
          rcases e23 with ⟨rfl, e23⟩ | ⟨rfl, e23⟩
          · skip
            refine AQ.of (AS.if_ne_t (tgt := 554) eL_law_535 (by decide) ⟨by decide, by decide⟩ (by decide)) ?_
            refine q_blk (lv2 := [(0, vr b0), (1, vi 1), (2, vi i9), (3, vr o), (4, vr bu), (5, vr r), (6, vr f), (7, vr bf), (8, vi dn), (9, vi n), (10, vr g9), (11, vi 1), (12, vi (-2000000099)), (13, vi (D 3)), (14, vi p), (15, vi x), (16, vi y), (17, vi 0), (18, vi 0), (19, vi pl), (21, vi z5)]) (st2 := [vi 0]) kL_law_554 rfl ?_
            refine q_blk (lv2 := [(0, vr b0), (1, vi 1), (2, vi i9), (3, vr o), (4, vr bu), (5, vr r), (6, vr f), (7, vr bf), (8, vi dn), (9, vi n), (10, vr g9), (11, vi 1), (12, vi (-2000000099)), (13, vi (D 3)), (14, vi p), (15, vi x), (16, vi y), (17, vi 0), (18, vi 0), (19, vi pl), (21, vi z5), (22, vi 0)]) (st2 := [vi 0]) kL_law_555 rfl ?_
            refine AQ.of (AS.if_eq_t (tgt := 567) eL_law_559 (by decide) ⟨by decide, by decide⟩ (by decide)) ?_
            refine q_blk (lv2 := [(0, vr b0), (1, vi 1), (2, vi i9), (3, vr o), (4, vr bu), (5, vr r), (6, vr f), (7, vr bf), (8, vi dn), (9, vi n), (10, vr g9), (11, vi 1), (12, vi (-2000000099)), (13, vi (D 3)), (14, vi p), (15, vi x), (16, vi y), (17, vi 0), (18, vi 0), (19, vi pl), (21, vi z5), (22, vi 0)]) (st2 := [vi (-3)]) kL_law_567 rfl ?_
            refine q_blk (lv2 := [(0, vr b0), (1, vi 1), (2, vi i9), (3, vr o), (4, vr bu), (5, vr r), (6, vr f), (7, vr bf), (8, vi dn), (9, vi n), (10, vr g9), (11, vi 1), (12, vi (-3)), (13, vi (D 3)), (14, vi p), (15, vi x), (16, vi y), (17, vi 0), (18, vi 0), (19, vi pl), (21, vi z5), (22, vi 0)]) (st2 := [vi 0]) kL_law_569 rfl ?_
            refine AQ.of (AS.if_eq_t (tgt := 587) eL_law_573 (by decide) ⟨by decide, by decide⟩ (by decide)) ?_
            refine q_blk (lv2 := [(0, vr b0), (1, vi 1), (2, vi i9), (3, vr o), (4, vr bu), (5, vr r), (6, vr f), (7, vr bf), (8, vi dn), (9, vi n), (10, vr g9), (11, vi 1), (12, vi (-3)), (13, vi (D 3)), (14, vi p), (15, vi x), (16, vi y), (17, vi 0), (18, vi 0), (19, vi pl), (21, vi z5), (22, vi 0)]) (st2 := [vi y, vi x, vi z5, vr o]) kL_law_587 rfl ?_
            refine AQ.callWi (av := [vr o, vi z5, vi x, vi y]) (st := []) (c_L_begin (c_X8_begin (MID.inc g8i).1.1 ⟨by omega, by omega⟩ ⟨by omega, by omega⟩ ⟨by omega, by omega⟩) (MID.inc g8i).1.1.ob (fun k h1 q => by rcases q.1 with ⟨_, e⟩ | ⟨_, (⟨_, e⟩ | ⟨_, (⟨_, e⟩ | ⟨_, e⟩)⟩)⟩ <;> first | (cases e; first | exact Or.inl rfl | exact Or.inr rfl) | exact e.elim)) lkw_L_begin (by omega) rfl rfl (Nat.le_of_ble_eq_true rfl) eL_law_594 (fun z24 h26 e25 => ?_)
            obtain ⟨-, D9, cm9, z24g, z24c, z24k⟩ := gx_ok (fun k q => by rcases q with ⟨a, e⟩ | ⟨_, (⟨a, e⟩ | ⟨_, (⟨a, e⟩ | ⟨a, e⟩)⟩)⟩ <;> first | omega | exact e.elim) e25
            obtain ⟨-, z24e, z24D⟩ := z24g.resolve_right (fun z => z.1 (Or.inl (Or.inr e23)))
            obtain rfl := z24D.symm
            obtain rfl : z24 = (-3) := z24e
            have z24R := (MID.inc g8i).go z24c z24k
            obtain ⟨⟨z241, z242, z243, z244⟩, -⟩ := z24k
            refine q_blk (lv2 := [(0, vr b0), (1, vi 1), (2, vi i9), (3, vr o), (4, vr bu), (5, vr r), (6, vr f), (7, vr bf), (8, vi dn), (9, vi n), (10, vr g9), (11, vi 1), (12, vi (-3)), (13, vi (D 3)), (14, vi p), (15, vi x), (16, vi y), (17, vi 0), (18, vi 0), (19, vi pl), (21, vi z5), (22, vi 0)]) (st2 := [vi (-3), vi (-3)]) kL_law_597 rfl ?_
            refine AQ.of (AS.ic_ne_f eL_law_599 ⟨by decide, by decide⟩ ⟨by decide, by decide⟩ rfl (by decide)) ?_
            refine q_blk (lv2 := [(0, vr b0), (1, vi 1), (2, vi i9), (3, vr o), (4, vr bu), (5, vr r), (6, vr f), (7, vr bf), (8, vi dn), (9, vi n), (10, vr g9), (11, vi 1), (12, vi (-3)), (13, vi (D 3)), (14, vi p), (15, vi x), (16, vi y), (17, vi 0), (18, vi 0), (19, vi pl), (21, vi z5), (22, vi 0)]) (st2 := [vi 1]) kL_law_602 rfl ?_
            refine q_goto (tgt := 607) eL_law_603 (by decide) ?_
            refine q_blk (lv2 := [(0, vr b0), (1, vi 1), (2, vi i9), (3, vr o), (4, vr bu), (5, vr r), (6, vr f), (7, vr bf), (8, vi dn), (9, vi n), (10, vr g9), (11, vi 1), (12, vi (-3)), (13, vi (D 3)), (14, vi p), (15, vi x), (16, vi y), (17, vi 0), (18, vi 0), (19, vi pl), (21, vi z5), (22, vi 0)]) (st2 := []) kL_law_607 rfl ?_
            refine q_goto (tgt := 1123) eL_law_608 (by decide) ?_
            refine q_sub (lv2 := [(0, vr b0), (1, vi 1), (2, vi i9), (3, vr o), (4, vr bu), (5, vr r), (6, vr f), (7, vr bf), (8, vi dn), (9, vi n), (10, vr g9), (11, vi 1)]) [0, 1, 2, 3, 4, 5, 6, 7, 8, 9, 10, 11] rfl ?_
            exact kk 1 h26 z24R ⟨by omega, by omega⟩
          · skip
            refine AQ.of (AS.if_ne_f eL_law_535 ⟨by decide, by decide⟩ (by decide) (by decide)) ?_
            refine q_blk (lv2 := [(0, vr b0), (1, vi 1), (2, vi i9), (3, vr o), (4, vr bu), (5, vr r), (6, vr f), (7, vr bf), (8, vi dn), (9, vi n), (10, vr g9), (11, vi 1), (12, vi (-2000000099)), (13, vi (D 3)), (14, vi p), (15, vi x), (16, vi y), (17, vi 0), (18, vi 0), (19, vi pl), (21, vi z5)]) (st2 := [vi y, vi x, vr f]) kL_law_538 rfl ?_
            refine q_Vi (av := [vi x, vi y]) (st := []) (c_X9_isOnSide g8i.1.2.1 g8i.1.2.2.1.1 g8i.1.1.1.2.2.2.2.2.1.2.1 (x := x) (y := y) ⟨by omega, by omega⟩ ⟨by omega, by omega⟩) lk_RL_166 (by omega) rfl rfl g8i.1.2.1.ob ⟨_, rfl, rfl⟩ (Nat.le_of_ble_eq_true rfl) eL_law_544 (fun z27 e28 => ?_)
            rcases e28 with ⟨rfl, e28⟩ | ⟨rfl, e28⟩
            · skip
              refine AQ.of (AS.if_ne_t (tgt := 554) eL_law_547 (by decide) ⟨by decide, by decide⟩ (by decide)) ?_
              refine q_blk (lv2 := [(0, vr b0), (1, vi 1), (2, vi i9), (3, vr o), (4, vr bu), (5, vr r), (6, vr f), (7, vr bf), (8, vi dn), (9, vi n), (10, vr g9), (11, vi 1), (12, vi (-2000000099)), (13, vi (D 3)), (14, vi p), (15, vi x), (16, vi y), (17, vi 0), (18, vi 0), (19, vi pl), (21, vi z5)]) (st2 := [vi 0]) kL_law_554 rfl ?_
              refine q_blk (lv2 := [(0, vr b0), (1, vi 1), (2, vi i9), (3, vr o), (4, vr bu), (5, vr r), (6, vr f), (7, vr bf), (8, vi dn), (9, vi n), (10, vr g9), (11, vi 1), (12, vi (-2000000099)), (13, vi (D 3)), (14, vi p), (15, vi x), (16, vi y), (17, vi 0), (18, vi 0), (19, vi pl), (21, vi z5), (22, vi 0)]) (st2 := [vi 0]) kL_law_555 rfl ?_
              refine AQ.of (AS.if_eq_t (tgt := 567) eL_law_559 (by decide) ⟨by decide, by decide⟩ (by decide)) ?_
              refine q_blk (lv2 := [(0, vr b0), (1, vi 1), (2, vi i9), (3, vr o), (4, vr bu), (5, vr r), (6, vr f), (7, vr bf), (8, vi dn), (9, vi n), (10, vr g9), (11, vi 1), (12, vi (-2000000099)), (13, vi (D 3)), (14, vi p), (15, vi x), (16, vi y), (17, vi 0), (18, vi 0), (19, vi pl), (21, vi z5), (22, vi 0)]) (st2 := [vi (-3)]) kL_law_567 rfl ?_
              refine q_blk (lv2 := [(0, vr b0), (1, vi 1), (2, vi i9), (3, vr o), (4, vr bu), (5, vr r), (6, vr f), (7, vr bf), (8, vi dn), (9, vi n), (10, vr g9), (11, vi 1), (12, vi (-3)), (13, vi (D 3)), (14, vi p), (15, vi x), (16, vi y), (17, vi 0), (18, vi 0), (19, vi pl), (21, vi z5), (22, vi 0)]) (st2 := [vi 0]) kL_law_569 rfl ?_
              refine AQ.of (AS.if_eq_t (tgt := 587) eL_law_573 (by decide) ⟨by decide, by decide⟩ (by decide)) ?_
              refine q_blk (lv2 := [(0, vr b0), (1, vi 1), (2, vi i9), (3, vr o), (4, vr bu), (5, vr r), (6, vr f), (7, vr bf), (8, vi dn), (9, vi n), (10, vr g9), (11, vi 1), (12, vi (-3)), (13, vi (D 3)), (14, vi p), (15, vi x), (16, vi y), (17, vi 0), (18, vi 0), (19, vi pl), (21, vi z5), (22, vi 0)]) (st2 := [vi y, vi x, vi z5, vr o]) kL_law_587 rfl ?_
              refine AQ.callWi (av := [vr o, vi z5, vi x, vi y]) (st := []) (c_L_begin (c_X8_begin (MID.inc g8i).1.1 ⟨by omega, by omega⟩ ⟨by omega, by omega⟩ ⟨by omega, by omega⟩) (MID.inc g8i).1.1.ob (fun k h1 q => by rcases q.1 with ⟨_, e⟩ | ⟨_, (⟨_, e⟩ | ⟨_, (⟨_, e⟩ | ⟨_, e⟩)⟩)⟩ <;> first | (cases e; first | exact Or.inl rfl | exact Or.inr rfl) | exact e.elim)) lkw_L_begin (by omega) rfl rfl (Nat.le_of_ble_eq_true rfl) eL_law_594 (fun z29 h31 e30 => ?_)
              obtain ⟨-, D9, cm9, z29g, z29c, z29k⟩ := gx_ok (fun k q => by rcases q with ⟨a, e⟩ | ⟨_, (⟨a, e⟩ | ⟨_, (⟨a, e⟩ | ⟨a, e⟩)⟩)⟩ <;> first | omega | exact e.elim) e30
              obtain ⟨-, z29e, z29D⟩ := z29g.resolve_right (fun z => z.1 (Or.inr e28))
              obtain rfl := z29D.symm
              obtain rfl : z29 = (-3) := z29e
              have z29R := (MID.inc g8i).go z29c z29k
              obtain ⟨⟨z291, z292, z293, z294⟩, -⟩ := z29k
              refine q_blk (lv2 := [(0, vr b0), (1, vi 1), (2, vi i9), (3, vr o), (4, vr bu), (5, vr r), (6, vr f), (7, vr bf), (8, vi dn), (9, vi n), (10, vr g9), (11, vi 1), (12, vi (-3)), (13, vi (D 3)), (14, vi p), (15, vi x), (16, vi y), (17, vi 0), (18, vi 0), (19, vi pl), (21, vi z5), (22, vi 0)]) (st2 := [vi (-3), vi (-3)]) kL_law_597 rfl ?_
              refine AQ.of (AS.ic_ne_f eL_law_599 ⟨by decide, by decide⟩ ⟨by decide, by decide⟩ rfl (by decide)) ?_
              refine q_blk (lv2 := [(0, vr b0), (1, vi 1), (2, vi i9), (3, vr o), (4, vr bu), (5, vr r), (6, vr f), (7, vr bf), (8, vi dn), (9, vi n), (10, vr g9), (11, vi 1), (12, vi (-3)), (13, vi (D 3)), (14, vi p), (15, vi x), (16, vi y), (17, vi 0), (18, vi 0), (19, vi pl), (21, vi z5), (22, vi 0)]) (st2 := [vi 1]) kL_law_602 rfl ?_
              refine q_goto (tgt := 607) eL_law_603 (by decide) ?_
              refine q_blk (lv2 := [(0, vr b0), (1, vi 1), (2, vi i9), (3, vr o), (4, vr bu), (5, vr r), (6, vr f), (7, vr bf), (8, vi dn), (9, vi n), (10, vr g9), (11, vi 1), (12, vi (-3)), (13, vi (D 3)), (14, vi p), (15, vi x), (16, vi y), (17, vi 0), (18, vi 0), (19, vi pl), (21, vi z5), (22, vi 0)]) (st2 := []) kL_law_607 rfl ?_
              refine q_goto (tgt := 1123) eL_law_608 (by decide) ?_
              refine q_sub (lv2 := [(0, vr b0), (1, vi 1), (2, vi i9), (3, vr o), (4, vr bu), (5, vr r), (6, vr f), (7, vr bf), (8, vi dn), (9, vi n), (10, vr g9), (11, vi 1)]) [0, 1, 2, 3, 4, 5, 6, 7, 8, 9, 10, 11] rfl ?_
              exact kk 1 h31 z29R ⟨by omega, by omega⟩
            · skip
              refine AQ.of (AS.if_ne_f eL_law_547 ⟨by decide, by decide⟩ (by decide) (by decide)) ?_
              refine q_blk (lv2 := [(0, vr b0), (1, vi 1), (2, vi i9), (3, vr o), (4, vr bu), (5, vr r), (6, vr f), (7, vr bf), (8, vi dn), (9, vi n), (10, vr g9), (11, vi 1), (12, vi (-2000000099)), (13, vi (D 3)), (14, vi p), (15, vi x), (16, vi y), (17, vi 0), (18, vi 0), (19, vi pl), (21, vi z5)]) (st2 := [vi 1]) kL_law_550 rfl ?_
              refine q_goto (tgt := 555) eL_law_551 (by decide) ?_
              refine q_blk (lv2 := [(0, vr b0), (1, vi 1), (2, vi i9), (3, vr o), (4, vr bu), (5, vr r), (6, vr f), (7, vr bf), (8, vi dn), (9, vi n), (10, vr g9), (11, vi 1), (12, vi (-2000000099)), (13, vi (D 3)), (14, vi p), (15, vi x), (16, vi y), (17, vi 0), (18, vi 0), (19, vi pl), (21, vi z5), (22, vi 1)]) (st2 := [vi 1]) kL_law_555 rfl ?_
              refine AQ.of (AS.if_eq_f eL_law_559 ⟨by decide, by decide⟩ (by decide) (by decide)) ?_
              refine q_blk (lv2 := [(0, vr b0), (1, vi 1), (2, vi i9), (3, vr o), (4, vr bu), (5, vr r), (6, vr f), (7, vr bf), (8, vi dn), (9, vi n), (10, vr g9), (11, vi 1), (12, vi (-2000000099)), (13, vi (D 3)), (14, vi p), (15, vi x), (16, vi y), (17, vi 0), (18, vi 0), (19, vi pl), (21, vi z5), (22, vi 1)]) (st2 := [vi (D 3)]) kL_law_562 rfl ?_
              refine q_goto (tgt := 569) eL_law_564 (by decide) ?_
              refine q_blk (lv2 := [(0, vr b0), (1, vi 1), (2, vi i9), (3, vr o), (4, vr bu), (5, vr r), (6, vr f), (7, vr bf), (8, vi dn), (9, vi n), (10, vr g9), (11, vi 1), (12, vi (D 3)), (13, vi (D 3)), (14, vi p), (15, vi x), (16, vi y), (17, vi 0), (18, vi 0), (19, vi pl), (21, vi z5), (22, vi 1)]) (st2 := [vi 1]) kL_law_569 rfl ?_
              refine AQ.of (AS.if_eq_f eL_law_573 ⟨by decide, by decide⟩ (by decide) (by decide)) ?_
              refine q_blk (lv2 := [(0, vr b0), (1, vi 1), (2, vi i9), (3, vr o), (4, vr bu), (5, vr r), (6, vr f), (7, vr bf), (8, vi dn), (9, vi n), (10, vr g9), (11, vi 1), (12, vi (D 3)), (13, vi (D 3)), (14, vi p), (15, vi x), (16, vi y), (17, vi 0), (18, vi 0), (19, vi pl), (21, vi z5), (22, vi 1)]) (st2 := [vi y, vi x, vi z5, vr f]) kL_law_576 rfl ?_
              refine AQ.callVv (av := [vi z5, vi x, vi y]) (st := []) (c_X9_add g8i.1.2.1 g8i.1.2.2.1.1 (by omega) (o := z5) (x := x) (y := y) ⟨by omega, by omega⟩ ⟨by omega, by omega⟩ (fun q b => b.1.2)) lk_RL_173 (by omega) rfl rfl g8i.1.2.1.ob ⟨_, rfl, rfl⟩ (Nat.le_of_ble_eq_true rfl) eL_law_584 (fun h34 e33 => ?_)
              obtain ⟨⟨g35t, g35gk, g35z, g35F, g35p, g35q, g35w⟩, g35k⟩ := e33
              have g35M := g8i.op (E := (gm_stP D z5 x y)) g35k (fun q z => Or.inl z) g35F (g8i.1.2.2.1.stP (by omega) ⟨by omega, by omega⟩ ⟨by omega, by omega⟩ ⟨by omega, by omega⟩ (fun z => z.elim e18 e23)) (fun q m => m.elim (fun a => Or.inl (Or.inl a)) fun ⟨p, p0, p1, a⟩ => by rw [gm_stP_3] at p1; exact (show p = D 3 ∨ p < D 3 by omega).elim (fun c => by subst c; rw [g35q] at a; cases a; exact Or.inr g35w) (fun c => Or.inl (Or.inr ⟨p, p0, c, by rw [← g35p p p0 c]; exact a⟩)))
              obtain ⟨-, ⟨g35a, g35b⟩, g35c, g35d⟩ := id g35k
              refine q_blk (lv2 := [(0, vr b0), (1, vi 1), (2, vi i9), (3, vr o), (4, vr bu), (5, vr r), (6, vr f), (7, vr bf), (8, vi dn), (9, vi n), (10, vr g9), (11, vi 1), (12, vi (D 3)), (13, vi (D 3)), (14, vi p), (15, vi x), (16, vi y), (17, vi 0), (18, vi 0), (19, vi pl), (21, vi z5), (22, vi 1)]) (st2 := [vi y, vi x, vi z5, vr o]) kL_law_587 rfl ?_
              refine AQ.callWi (av := [vr o, vi z5, vi x, vi y]) (st := []) (c_L_begin (c_X8_begin g35M.1.1 ⟨by omega, by omega⟩ ⟨by omega, by omega⟩ ⟨by omega, by omega⟩) g35M.1.1.ob (fun k h1 q => by rcases q.1 with ⟨_, e⟩ | ⟨_, (⟨_, e⟩ | ⟨_, (⟨_, e⟩ | ⟨_, e⟩)⟩)⟩ <;> first | (cases e; first | exact Or.inl rfl | exact Or.inr rfl) | exact e.elim)) lkw_L_begin (by omega) rfl rfl (Nat.le_of_ble_eq_true rfl) eL_law_594 (fun z36 h38 e37 => ?_)
              obtain ⟨-, D9, cm9, z36g, z36c, z36k⟩ := gx_ok (fun k q => by rcases q with ⟨a, e⟩ | ⟨_, (⟨a, e⟩ | ⟨_, (⟨a, e⟩ | ⟨a, e⟩)⟩)⟩ <;> first | omega | exact e.elim) e37
              obtain ⟨-, z36e, rfl⟩ := z36g.resolve_left (fun z => (fun z => z.elim (fun z => z.elim e18 e23) e28) z.1)
              obtain rfl : z36 = (D 3) := z36e
              have z36R := g35M.go z36c z36k
              obtain ⟨⟨z361, z362, z363, z364⟩, -⟩ := z36k
              refine q_blk (lv2 := [(0, vr b0), (1, vi 1), (2, vi i9), (3, vr o), (4, vr bu), (5, vr r), (6, vr f), (7, vr bf), (8, vi dn), (9, vi n), (10, vr g9), (11, vi 1), (12, vi (D 3)), (13, vi (D 3)), (14, vi p), (15, vi x), (16, vi y), (17, vi 0), (18, vi 0), (19, vi pl), (21, vi z5), (22, vi 1)]) (st2 := [vi (D 3), vi (D 3)]) kL_law_597 rfl ?_
              refine AQ.of (AS.ic_ne_f eL_law_599 (by first | assumption | exact ⟨by omega, by omega⟩ | exact ⟨by decide, by decide⟩) (by first | assumption | exact ⟨by omega, by omega⟩ | exact ⟨by decide, by decide⟩) rfl (by decide)) ?_
              refine q_blk (lv2 := [(0, vr b0), (1, vi 1), (2, vi i9), (3, vr o), (4, vr bu), (5, vr r), (6, vr f), (7, vr bf), (8, vi dn), (9, vi n), (10, vr g9), (11, vi 1), (12, vi (D 3)), (13, vi (D 3)), (14, vi p), (15, vi x), (16, vi y), (17, vi 0), (18, vi 0), (19, vi pl), (21, vi z5), (22, vi 1)]) (st2 := [vi 1]) kL_law_602 rfl ?_
              refine q_goto (tgt := 607) eL_law_603 (by decide) ?_
              refine q_blk (lv2 := [(0, vr b0), (1, vi 1), (2, vi i9), (3, vr o), (4, vr bu), (5, vr r), (6, vr f), (7, vr bf), (8, vi dn), (9, vi n), (10, vr g9), (11, vi 1), (12, vi (D 3)), (13, vi (D 3)), (14, vi p), (15, vi x), (16, vi y), (17, vi 0), (18, vi 0), (19, vi pl), (21, vi z5), (22, vi 1)]) (st2 := []) kL_law_607 rfl ?_
              refine q_goto (tgt := 1123) eL_law_608 (by decide) ?_
              refine q_sub (lv2 := [(0, vr b0), (1, vi 1), (2, vi i9), (3, vr o), (4, vr bu), (5, vr r), (6, vr f), (7, vr bf), (8, vi dn), (9, vi n), (10, vr g9), (11, vi 1)]) [0, 1, 2, 3, 4, 5, 6, 7, 8, 9, 10, 11] rfl ?_
              exact kk 1 h38 z36R ⟨by omega, by omega⟩
  refine AQ.if_ne (tgt := 468) eL_law_461 (by decide) (by first | assumption | exact ⟨by omega, by omega⟩ | exact ⟨by decide, by decide⟩) (fun br39 => ?_) (fun br39 => ?_)
  · skip
    refine q_blk (lv2 := [(0, vr b0), (1, vi 1), (2, vi i9), (3, vr o), (4, vr bu), (5, vr r), (6, vr f), (7, vr bf), (8, vi dn), (9, vi n), (10, vr g9), (11, vi 1), (12, vi (-2000000097)), (13, vi (D 3)), (14, vi p), (15, vi x), (16, vi y), (17, vi 0), (18, vi 0), (19, vi pl)]) (st2 := [vi 4, vr r]) kL_law_468 rfl ?_
    exact jn469 4 (by omega)
  · skip
    refine q_blk (lv2 := [(0, vr b0), (1, vi 1), (2, vi i9), (3, vr o), (4, vr bu), (5, vr r), (6, vr f), (7, vr bf), (8, vi dn), (9, vi n), (10, vr g9), (11, vi 1), (12, vi (-2000000097)), (13, vi (D 3)), (14, vi p), (15, vi x), (16, vi y), (17, vi 0), (18, vi 0), (19, vi pl)]) (st2 := [vi 5, vr r]) kL_law_464 rfl ?_
    refine q_goto (tgt := 469) eL_law_465 (by decide) ?_
    exact jn469 5 (by omega)

set_option maxRecDepth 4000 in
set_option maxHeartbeats 8000000 in
theorem sg_clo1 {nm : String} {TT : List (Nat × Nat × Nat × Nat)} {w : am_w} {d b0 : Nat} {i9 dn n : Int} {Q : RV → AH → Prop} {h : AH} {o bu r bf f sa pa : Nat} {gs gp : Int → Option Nat} {T : Option Nat} {L : GL} {D cm : Int → Int} {sc : Nat} {tx : Int → Int} {bl le : Int} {Hs H1 : List GE} {g9 shq : Nat} {pl p x y : Int} (hd : 90 ≤ d) (hsq : gp p = some shq) (hI : INC w o bu r bf f sa pa gs gp T L h D cm sc tx bl le Hs H1 g9) (hp : 0 ≤ p ∧ p < D 3) (hpl : 0 ≤ pl ∧ pl ≤ pN D p) (hxx : 0 ≤ x ∧ x ≤ D 0) (hyy : 0 ≤ y ∧ y ≤ D 1) (kk : ∀ (ch : Int) (h1 : AH), RES w o bu r bf f sa gs T L h1 D cm sc tx bl le Hs H1 g9 ch → (h1.2.1 ≤ h.2.1 + 16 ∧ h1.2.2 ≤ h.2.2 + 40) → AQ w (mL nm TT) d 1123 [(0, vr b0), (1, vi 1), (2, vi i9), (3, vr o), (4, vr bu), (5, vr r), (6, vr f), (7, vr bf), (8, vi dn), (9, vi n), (10, vr g9), (11, vi ch)] [] h1 Q)  : AQ w (mL nm TT) d 611 [(0, vr b0), (1, vi 1), (2, vi i9), (3, vr o), (4, vr bu), (5, vr r), (6, vr f), (7, vr bf), (8, vi dn), (9, vi n), (10, vr g9), (11, vi 1), (12, vi (-2000000097)), (13, vi (D 3)), (14, vi p), (15, vi x), (16, vi y), (17, vi 1), (18, vi (pN D p)), (19, vi pl), (20, vr shq)] [] h Q := by
  have hD := hI.1.2.2.1.1
  have d0 := hD.1
  have d1 := hD.2.1
  have d2 := hD.2.2.1
  have d3 := hD.2.2.2.1
  have vcp := hD.vc (p := p) (by omega) (by omega)
  obtain ⟨op1, ⟨np1, np2⟩, cp1, -⟩ := hD.2.2.2.2.2 p (by omega) (by omega)
  refine q_blk (lv2 := [(0, vr b0), (1, vi 1), (2, vi i9), (3, vr o), (4, vr bu), (5, vr r), (6, vr f), (7, vr bf), (8, vi dn), (9, vi n), (10, vr g9), (11, vi 1), (12, vi (-2000000097)), (13, vi (D 3)), (14, vi p), (15, vi x), (16, vi y), (17, vi 1), (18, vi (pN D p)), (19, vi pl), (20, vr shq)]) (st2 := [vi 1]) kL_law_611 rfl ?_
  refine AQ.of (AS.if_eq_f eL_law_617 ⟨by decide, by decide⟩ (by decide) (by decide)) ?_
  refine q_blk (lv2 := [(0, vr b0), (1, vi 1), (2, vi i9), (3, vr o), (4, vr bu), (5, vr r), (6, vr f), (7, vr bf), (8, vi dn), (9, vi n), (10, vr g9), (11, vi 1), (12, vi (-2000000097)), (13, vi (D 3)), (14, vi p), (15, vi x), (16, vi y), (17, vi 1), (18, vi (pN D p)), (19, vi pl), (20, vr shq)]) (st2 := [vi p, vr f]) kL_law_620 rfl ?_
  refine q_Vi (av := [vi p]) (st := []) (c_X9_close hI.1.2.1 hI.1.2.2.1.1 hI.1.2.2.1.2.1 (p := p) (by omega) (by omega) ) lk_RL_186 (by omega) rfl rfl hI.1.2.1.ob ⟨_, rfl, rfl⟩ (Nat.le_of_ble_eq_true rfl) eL_law_624 (fun z1 e2 => ?_)
  have z1r := gm_rL_0r e2
  refine q_blk (lv2 := [(0, vr b0), (1, vi 1), (2, vi i9), (3, vr o), (4, vr bu), (5, vr r), (6, vr f), (7, vr bf), (8, vi dn), (9, vi n), (10, vr g9), (11, vi 1), (12, vi (-2000000097)), (13, vi (D 3)), (14, vi p), (15, vi x), (16, vi y), (17, vi 1), (18, vi (pN D p)), (19, vi pl), (20, vr shq), (22, vi z1)]) (st2 := [vi z1]) kL_law_627 rfl ?_
  refine AQ.if_ne (tgt := 640) eL_law_631 (by decide) (by first | assumption | exact ⟨by omega, by omega⟩ | exact ⟨by decide, by decide⟩) (fun br3 => ?_) (fun br3 => ?_)
  · skip
    refine q_blk (lv2 := [(0, vr b0), (1, vi 1), (2, vi i9), (3, vr o), (4, vr bu), (5, vr r), (6, vr f), (7, vr bf), (8, vi dn), (9, vi n), (10, vr g9), (11, vi 1), (12, vi (-2000000097)), (13, vi (D 3)), (14, vi p), (15, vi x), (16, vi y), (17, vi 1), (18, vi (pN D p)), (19, vi pl), (20, vr shq), (22, vi z1)]) (st2 := [vi z1]) kL_law_640 rfl ?_
    refine AQ.of (AS.if_le_f eL_law_642 (by first | assumption | exact ⟨by omega, by omega⟩ | exact ⟨by decide, by decide⟩) (by omega) (by decide)) ?_
    refine q_blk (lv2 := [(0, vr b0), (1, vi 1), (2, vi i9), (3, vr o), (4, vr bu), (5, vr r), (6, vr f), (7, vr bf), (8, vi dn), (9, vi n), (10, vr g9), (11, vi 1), (12, vi (-2000000097)), (13, vi (D 3)), (14, vi p), (15, vi x), (16, vi y), (17, vi 1), (18, vi (pN D p)), (19, vi pl), (20, vr shq), (22, vi z1)]) (st2 := [vi (-z1)]) kL_law_645 rfl ?_
    refine q_goto (tgt := 658) eL_law_648 (by decide) ?_
    refine q_blk (lv2 := [(0, vr b0), (1, vi 1), (2, vi i9), (3, vr o), (4, vr bu), (5, vr r), (6, vr f), (7, vr bf), (8, vi dn), (9, vi n), (10, vr g9), (11, vi 1), (12, vi (-z1)), (13, vi (D 3)), (14, vi p), (15, vi x), (16, vi y), (17, vi 1), (18, vi (pN D p)), (19, vi pl), (20, vr shq), (22, vi z1)]) (st2 := []) kL_law_658 rfl ?_
    refine q_blk (lv2 := [(0, vr b0), (1, vi 1), (2, vi i9), (3, vr o), (4, vr bu), (5, vr r), (6, vr f), (7, vr bf), (8, vi dn), (9, vi n), (10, vr g9), (11, vi 1), (12, vi (-z1)), (13, vi (D 3)), (14, vi p), (15, vi x), (16, vi y), (17, vi 1), (18, vi (pN D p)), (19, vi pl), (20, vr shq), (22, vi z1)]) (st2 := [vi p, vr o]) kL_law_660 rfl ?_
    refine AQ.callWi (av := [vr o, vi p]) (st := []) (c_L_close (c_X8_close (MID.inc hI).1.1 ⟨by omega, by omega⟩) (MID.inc hI).1.1.ob (fun k h1 q => by rcases q.1 with ⟨_, e⟩ | ⟨_, e⟩ <;> first | (cases e; rfl) | exact e.elim)) lkw_L_close (by omega) rfl rfl (Nat.le_of_ble_eq_true rfl) eL_law_663 (fun z4 h6 e5 => ?_)
    obtain ⟨-, D9, cm9, z4g, z4c, z4k⟩ := gx_ok (fun k q => by rcases q with ⟨a, e⟩ | ⟨_, e⟩ <;> first | omega | exact e.elim) e5
    obtain ⟨q9, q9r, q9c⟩ := z4g
    obtain rfl := (gm_rL_u q9r e2).symm
    obtain ⟨-, z4e, z4D⟩ := q9c.resolve_right (fun z => by have := z.1; omega)
    obtain rfl := z4D.symm
    obtain rfl : z4 = (-z1) := z4e
    have z4R := (MID.inc hI).go z4c z4k
    obtain ⟨⟨z41, z42, z43, z44⟩, -⟩ := z4k
    refine q_blk (lv2 := [(0, vr b0), (1, vi 1), (2, vi i9), (3, vr o), (4, vr bu), (5, vr r), (6, vr f), (7, vr bf), (8, vi dn), (9, vi n), (10, vr g9), (11, vi 1), (12, vi (-z1)), (13, vi (D 3)), (14, vi p), (15, vi x), (16, vi y), (17, vi 1), (18, vi (pN D p)), (19, vi pl), (20, vr shq), (22, vi z1)]) (st2 := [vi (-z1), vi (-z1)]) kL_law_666 rfl ?_
    refine AQ.of (AS.ic_ne_f eL_law_668 (by first | assumption | exact ⟨by omega, by omega⟩ | exact ⟨by decide, by decide⟩) (by first | assumption | exact ⟨by omega, by omega⟩ | exact ⟨by decide, by decide⟩) rfl (by decide)) ?_
    refine q_blk (lv2 := [(0, vr b0), (1, vi 1), (2, vi i9), (3, vr o), (4, vr bu), (5, vr r), (6, vr f), (7, vr bf), (8, vi dn), (9, vi n), (10, vr g9), (11, vi 1), (12, vi (-z1)), (13, vi (D 3)), (14, vi p), (15, vi x), (16, vi y), (17, vi 1), (18, vi (pN D p)), (19, vi pl), (20, vr shq), (22, vi z1)]) (st2 := [vi 1]) kL_law_671 rfl ?_
    refine q_goto (tgt := 676) eL_law_672 (by decide) ?_
    refine q_blk (lv2 := [(0, vr b0), (1, vi 1), (2, vi i9), (3, vr o), (4, vr bu), (5, vr r), (6, vr f), (7, vr bf), (8, vi dn), (9, vi n), (10, vr g9), (11, vi 1), (12, vi (-z1)), (13, vi (D 3)), (14, vi p), (15, vi x), (16, vi y), (17, vi 1), (18, vi (pN D p)), (19, vi pl), (20, vr shq), (22, vi z1)]) (st2 := []) kL_law_676 rfl ?_
    refine q_goto (tgt := 1123) eL_law_677 (by decide) ?_
    refine q_sub (lv2 := [(0, vr b0), (1, vi 1), (2, vi i9), (3, vr o), (4, vr bu), (5, vr r), (6, vr f), (7, vr bf), (8, vi dn), (9, vi n), (10, vr g9), (11, vi 1)]) [0, 1, 2, 3, 4, 5, 6, 7, 8, 9, 10, 11] rfl ?_
    exact kk 1 h6 z4R ⟨by omega, by omega⟩
  · skip
    refine q_blk (lv2 := [(0, vr b0), (1, vi 1), (2, vi i9), (3, vr o), (4, vr bu), (5, vr r), (6, vr f), (7, vr bf), (8, vi dn), (9, vi n), (10, vr g9), (11, vi 1), (12, vi (-2000000097)), (13, vi (D 3)), (14, vi p), (15, vi x), (16, vi y), (17, vi 1), (18, vi (pN D p)), (19, vi pl), (20, vr shq), (22, vi z1)]) (st2 := [vi 1, vr shq]) kL_law_634 rfl ?_
    obtain ⟨⟨bf7, bs7, bp7⟩, C07, ⟨fz17, C17⟩, ⟨fz27, C27⟩, hst, hsh, hij⟩ := id hI.1.2.1
    obtain ⟨q8, g8, l8⟩ := hsh p (by omega) (by omega)
    rw [hsq] at g8; obtain rfl := Option.some.inj g8
    obtain ⟨ca8, cf8, ⟨w8, u8⟩, c8, d8, e8⟩ := id l8
    have hsl8 := w8.1.2
    have hcl8 := u8.1.2
    refine q_pi eL_law_637 fl_RL_190 (fun q hq => by cases hq; exact Or.inl rfl) (Or.inr ⟨rfl, by first | decide | omega⟩) c8 (Nat.le_of_ble_eq_true rfl) (l2 := [(pO D p), 1, 0]) rfl (fun h9 e10 => ?_)
    have e10u : h9.2.1 = h.2.1 := congrArg Prod.fst (am_z e10)
    have e10v : h9.2.2 = h.2.2 := congrArg Prod.snd (am_z e10)
    have e10F : ∀ q, q < h.2.1 → q ≠ shq → h9.1 q = h.1 q := (fun q q0 q1 => am_ne e10 q q1)
    have e10K : KF h h9 (fun q => q = shq) 1 12 := ⟨fun q q0 q1 => e10F q q0 q1, ⟨by omega, by omega⟩, by omega, by omega⟩
    have e10S := FLD.setP hI.1.2.1 hD (fun q b => b.1.2) (p := p) (n := pN D p) (c := 1) (xs := pX D p) (ys := pY D p) (by omega) (by omega) hsq e10F (by omega) (am_at e10) ((e10F _ hcl8 (fun z => by have b := d8; rw [z, c8] at b; cases b)).trans d8) (Or.inl u8) e8
    have e103 : (gm_clP D p) 3 = D 3 := gm_setP_o (by omega)
    have e10M := hI.op (E := (gm_clP D p)) e10K (fun q z => Or.inr ⟨p, by omega, by omega, by rw [show q = shq from z]; exact hsq⟩) e10S (hI.1.2.2.1.clP (by omega) (by omega) (by have q := e2; rw [show z1 = 0 by omega] at q; exact q)) (fun q m => Or.inl (by rw [e103] at m; exact m))
    refine q_blk (lv2 := [(0, vr b0), (1, vi 1), (2, vi i9), (3, vr o), (4, vr bu), (5, vr r), (6, vr f), (7, vr bf), (8, vi dn), (9, vi n), (10, vr g9), (11, vi 1), (12, vi (-2000000097)), (13, vi (D 3)), (14, vi p), (15, vi x), (16, vi y), (17, vi 1), (18, vi (pN D p)), (19, vi pl), (20, vr shq), (22, vi z1)]) (st2 := [vi z1]) kL_law_640 rfl ?_
    refine AQ.of (AS.if_le_t (tgt := 651) eL_law_642 (by decide) (by first | assumption | exact ⟨by omega, by omega⟩ | exact ⟨by decide, by decide⟩) (by omega)) ?_
    refine q_blk (lv2 := [(0, vr b0), (1, vi 1), (2, vi i9), (3, vr o), (4, vr bu), (5, vr r), (6, vr f), (7, vr bf), (8, vi dn), (9, vi n), (10, vr g9), (11, vi 1), (12, vi (-2000000097)), (13, vi (D 3)), (14, vi p), (15, vi x), (16, vi y), (17, vi 1), (18, vi (pN D p)), (19, vi pl), (20, vr shq), (22, vi z1)]) (st2 := [vi p, vr f]) kL_law_651 rfl ?_
    obtain ⟨cmx, hCx⟩ := CMS.ex (D := (gm_clP D p)) e10M.2.1.2.1.1.2.2.2.1.2
    have uqx := FX.uq e10M.2.1.2.1 hCx
    refine q_Vi (av := [vi p]) (st := []) (c_X9_claimedP e10M.2.1.1 e10M.2.1.2.1.1 uqx (fun k k0 k1 => (hCx k k0 k1).2) (p := p) (by omega) (by omega)) lk_RL_224 (by omega) rfl rfl e10M.2.1.1.ob ⟨_, rfl, rfl⟩ (Nat.le_of_ble_eq_true rfl) eL_law_655 (fun z11 e12 => ?_)
    have z11r := gx_if (cm := cmx) (p := p) e10M.2.1.2.1.1.2.2.1
    rw [← e12] at z11r
    refine q_blk (lv2 := [(0, vr b0), (1, vi 1), (2, vi i9), (3, vr o), (4, vr bu), (5, vr r), (6, vr f), (7, vr bf), (8, vi dn), (9, vi n), (10, vr g9), (11, vi 1), (12, vi z11), (13, vi (D 3)), (14, vi p), (15, vi x), (16, vi y), (17, vi 1), (18, vi (pN D p)), (19, vi pl), (20, vr shq), (22, vi z1)]) (st2 := []) kL_law_658 rfl ?_
    refine q_blk (lv2 := [(0, vr b0), (1, vi 1), (2, vi i9), (3, vr o), (4, vr bu), (5, vr r), (6, vr f), (7, vr bf), (8, vi dn), (9, vi n), (10, vr g9), (11, vi 1), (12, vi z11), (13, vi (D 3)), (14, vi p), (15, vi x), (16, vi y), (17, vi 1), (18, vi (pN D p)), (19, vi pl), (20, vr shq), (22, vi z1)]) (st2 := [vi p, vr o]) kL_law_660 rfl ?_
    refine AQ.callWi (av := [vr o, vi p]) (st := []) (c_L_close (c_X8_close e10M.1.1 ⟨by omega, by omega⟩) e10M.1.1.ob (fun k h1 q => by rcases q.1 with ⟨_, e⟩ | ⟨_, e⟩ <;> first | (cases e; rfl) | exact e.elim)) lkw_L_close (by omega) rfl rfl (Nat.le_of_ble_eq_true rfl) eL_law_663 (fun z13 h15 e14 => ?_)
    obtain ⟨-, D9, cm9, z13g, z13c, z13k⟩ := gx_ok (fun k q => by rcases q with ⟨a, e⟩ | ⟨_, e⟩ <;> first | omega | exact e.elim) e14
    obtain ⟨q9, q9r, q9c⟩ := z13g
    obtain rfl := (gm_rL_u q9r e2).symm
    obtain ⟨-, z13e, rfl⟩ := q9c.resolve_left (fun z => z.1 (by omega))
    have z13e := z13e.trans ((gm_sm_ci (fun k k0 k1 => by unfold gm_if; rw [CMS.one z13c.2.2.2.2.2.1.2.2.1 hCx k0 k1])).trans e12.symm)
    obtain rfl := (z13e).symm
    have z13R := e10M.go z13c z13k
    obtain ⟨⟨z131, z132, z133, z134⟩, -⟩ := z13k
    refine q_blk (lv2 := [(0, vr b0), (1, vi 1), (2, vi i9), (3, vr o), (4, vr bu), (5, vr r), (6, vr f), (7, vr bf), (8, vi dn), (9, vi n), (10, vr g9), (11, vi 1), (12, vi z11), (13, vi (D 3)), (14, vi p), (15, vi x), (16, vi y), (17, vi 1), (18, vi (pN D p)), (19, vi pl), (20, vr shq), (22, vi z1)]) (st2 := [vi z11, vi z11]) kL_law_666 rfl ?_
    refine AQ.of (AS.ic_ne_f eL_law_668 (by first | assumption | exact ⟨by omega, by omega⟩ | exact ⟨by decide, by decide⟩) (by first | assumption | exact ⟨by omega, by omega⟩ | exact ⟨by decide, by decide⟩) rfl (by decide)) ?_
    refine q_blk (lv2 := [(0, vr b0), (1, vi 1), (2, vi i9), (3, vr o), (4, vr bu), (5, vr r), (6, vr f), (7, vr bf), (8, vi dn), (9, vi n), (10, vr g9), (11, vi 1), (12, vi z11), (13, vi (D 3)), (14, vi p), (15, vi x), (16, vi y), (17, vi 1), (18, vi (pN D p)), (19, vi pl), (20, vr shq), (22, vi z1)]) (st2 := [vi 1]) kL_law_671 rfl ?_
    refine q_goto (tgt := 676) eL_law_672 (by decide) ?_
    refine q_blk (lv2 := [(0, vr b0), (1, vi 1), (2, vi i9), (3, vr o), (4, vr bu), (5, vr r), (6, vr f), (7, vr bf), (8, vi dn), (9, vi n), (10, vr g9), (11, vi 1), (12, vi z11), (13, vi (D 3)), (14, vi p), (15, vi x), (16, vi y), (17, vi 1), (18, vi (pN D p)), (19, vi pl), (20, vr shq), (22, vi z1)]) (st2 := []) kL_law_676 rfl ?_
    refine q_goto (tgt := 1123) eL_law_677 (by decide) ?_
    refine q_sub (lv2 := [(0, vr b0), (1, vi 1), (2, vi i9), (3, vr o), (4, vr bu), (5, vr r), (6, vr f), (7, vr bf), (8, vi dn), (9, vi n), (10, vr g9), (11, vi 1)]) [0, 1, 2, 3, 4, 5, 6, 7, 8, 9, 10, 11] rfl ?_
    exact kk 1 h15 z13R ⟨by omega, by omega⟩

set_option maxRecDepth 4000 in
set_option maxHeartbeats 8000000 in
theorem sg_clo0 {nm : String} {TT : List (Nat × Nat × Nat × Nat)} {w : am_w} {d b0 : Nat} {i9 dn n : Int} {Q : RV → AH → Prop} {h : AH} {o bu r bf f sa pa : Nat} {gs gp : Int → Option Nat} {T : Option Nat} {L : GL} {D cm : Int → Int} {sc : Nat} {tx : Int → Int} {bl le : Int} {Hs H1 : List GE} {g9 : Nat} {pl p x y : Int} (hd : 90 ≤ d) (hI : INC w o bu r bf f sa pa gs gp T L h D cm sc tx bl le Hs H1 g9) (hp : p = D 3) (hpl : 0 ≤ pl ∧ pl ≤ 30) (hxx : 0 ≤ x ∧ x ≤ D 0) (hyy : 0 ≤ y ∧ y ≤ D 1) (kk : ∀ (ch : Int) (h1 : AH), RES w o bu r bf f sa gs T L h1 D cm sc tx bl le Hs H1 g9 ch → (h1.2.1 ≤ h.2.1 + 16 ∧ h1.2.2 ≤ h.2.2 + 40) → AQ w (mL nm TT) d 1123 [(0, vr b0), (1, vi 1), (2, vi i9), (3, vr o), (4, vr bu), (5, vr r), (6, vr f), (7, vr bf), (8, vi dn), (9, vi n), (10, vr g9), (11, vi ch)] [] h1 Q)  : AQ w (mL nm TT) d 611 [(0, vr b0), (1, vi 1), (2, vi i9), (3, vr o), (4, vr bu), (5, vr r), (6, vr f), (7, vr bf), (8, vi dn), (9, vi n), (10, vr g9), (11, vi 1), (12, vi (-2000000097)), (13, vi (D 3)), (14, vi p), (15, vi x), (16, vi y), (17, vi 0), (18, vi 0), (19, vi pl)] [] h Q := by
  have hD := hI.1.2.2.1.1
  have d0 := hD.1
  have d1 := hD.2.1
  have d2 := hD.2.2.1
  have d3 := hD.2.2.2.1
  refine q_blk (lv2 := [(0, vr b0), (1, vi 1), (2, vi i9), (3, vr o), (4, vr bu), (5, vr r), (6, vr f), (7, vr bf), (8, vi dn), (9, vi n), (10, vr g9), (11, vi 0), (12, vi (-2000000097)), (13, vi (D 3)), (14, vi p), (15, vi x), (16, vi y), (17, vi 0), (18, vi 0), (19, vi pl)]) (st2 := [vi 0]) kL_law_611 rfl ?_
  refine AQ.of (AS.if_eq_t (tgt := 660) eL_law_617 (by decide) ⟨by decide, by decide⟩ (by decide)) ?_
  refine q_blk (lv2 := [(0, vr b0), (1, vi 1), (2, vi i9), (3, vr o), (4, vr bu), (5, vr r), (6, vr f), (7, vr bf), (8, vi dn), (9, vi n), (10, vr g9), (11, vi 0), (12, vi (-2000000097)), (13, vi (D 3)), (14, vi p), (15, vi x), (16, vi y), (17, vi 0), (18, vi 0), (19, vi pl)]) (st2 := [vi p, vr o]) kL_law_660 rfl ?_
  refine AQ.callWi (av := [vr o, vi p]) (st := []) (c_L_close (c_X8_close (MID.inc hI).1.1 ⟨by omega, by omega⟩) (MID.inc hI).1.1.ob (fun k h1 q => by rcases q.1 with ⟨_, e⟩ | ⟨_, e⟩ <;> first | (cases e; rfl) | exact e.elim)) lkw_L_close (by omega) rfl rfl (Nat.le_of_ble_eq_true rfl) eL_law_663 (fun z1 h3 e2 => ?_)
  obtain ⟨z1e, z1h⟩ := gx_th (k0 := 2) (fun q => by have := q.1; omega) (fun k q => by rcases q with ⟨a, e⟩ | ⟨_, e⟩ <;> first | (cases e; first | rfl | omega) | exact e.elim) e2
  subst z1h
  obtain rfl : z1 = (-2000000097) := z1e
  have z1t : (gm_thr h).2.1 = h.2.1 + 1 := rfl
  have z1s : (gm_thr h).2.2 = h.2.2 + 6 := rfl
  refine q_blk (lv2 := [(0, vr b0), (1, vi 1), (2, vi i9), (3, vr o), (4, vr bu), (5, vr r), (6, vr f), (7, vr bf), (8, vi dn), (9, vi n), (10, vr g9), (11, vi 0), (12, vi (-2000000097)), (13, vi (D 3)), (14, vi p), (15, vi x), (16, vi y), (17, vi 0), (18, vi 0), (19, vi pl)]) (st2 := [vi (-2000000097), vi (-2000000097)]) kL_law_666 rfl ?_
  refine AQ.of (AS.ic_ne_f eL_law_668 ⟨by decide, by decide⟩ ⟨by decide, by decide⟩ rfl (by decide)) ?_
  refine q_blk (lv2 := [(0, vr b0), (1, vi 1), (2, vi i9), (3, vr o), (4, vr bu), (5, vr r), (6, vr f), (7, vr bf), (8, vi dn), (9, vi n), (10, vr g9), (11, vi 0), (12, vi (-2000000097)), (13, vi (D 3)), (14, vi p), (15, vi x), (16, vi y), (17, vi 0), (18, vi 0), (19, vi pl)]) (st2 := [vi 1]) kL_law_671 rfl ?_
  refine q_goto (tgt := 676) eL_law_672 (by decide) ?_
  refine q_blk (lv2 := [(0, vr b0), (1, vi 1), (2, vi i9), (3, vr o), (4, vr bu), (5, vr r), (6, vr f), (7, vr bf), (8, vi dn), (9, vi n), (10, vr g9), (11, vi 0), (12, vi (-2000000097)), (13, vi (D 3)), (14, vi p), (15, vi x), (16, vi y), (17, vi 0), (18, vi 0), (19, vi pl)]) (st2 := []) kL_law_676 rfl ?_
  refine q_goto (tgt := 1123) eL_law_677 (by decide) ?_
  refine q_sub (lv2 := [(0, vr b0), (1, vi 1), (2, vi i9), (3, vr o), (4, vr bu), (5, vr r), (6, vr f), (7, vr bf), (8, vi dn), (9, vi n), (10, vr g9), (11, vi 0)]) [0, 1, 2, 3, 4, 5, 6, 7, 8, 9, 10, 11] rfl ?_
  exact kk 0 (gm_thr h) (RES.no hI) ⟨by omega, by omega⟩

set_option maxRecDepth 4000 in
set_option maxHeartbeats 8000000 in
theorem sg_ben1 {nm : String} {TT : List (Nat × Nat × Nat × Nat)} {w : am_w} {d b0 : Nat} {i9 dn n : Int} {Q : RV → AH → Prop} {h : AH} {o bu r bf f sa pa : Nat} {gs gp : Int → Option Nat} {T : Option Nat} {L : GL} {D cm : Int → Int} {sc : Nat} {tx : Int → Int} {bl le : Int} {Hs H1 : List GE} {g9 shq : Nat} {pl p x y : Int} (hd : 90 ≤ d) (hsq : gp p = some shq) (hI : INC w o bu r bf f sa pa gs gp T L h D cm sc tx bl le Hs H1 g9) (hp : 0 ≤ p ∧ p < D 3) (hpl : 0 ≤ pl ∧ pl ≤ pN D p) (hxx : 0 ≤ x ∧ x ≤ D 0) (hyy : 0 ≤ y ∧ y ≤ D 1) (kk : ∀ (ch : Int) (h1 : AH), RES w o bu r bf f sa gs T L h1 D cm sc tx bl le Hs H1 g9 ch → (h1.2.1 ≤ h.2.1 + 16 ∧ h1.2.2 ≤ h.2.2 + 40) → AQ w (mL nm TT) d 1123 [(0, vr b0), (1, vi 1), (2, vi i9), (3, vr o), (4, vr bu), (5, vr r), (6, vr f), (7, vr bf), (8, vi dn), (9, vi n), (10, vr g9), (11, vi ch)] [] h1 Q)  : AQ w (mL nm TT) d 680 [(0, vr b0), (1, vi 1), (2, vi i9), (3, vr o), (4, vr bu), (5, vr r), (6, vr f), (7, vr bf), (8, vi dn), (9, vi n), (10, vr g9), (11, vi 1), (12, vi (-2000000097)), (13, vi (D 3)), (14, vi p), (15, vi x), (16, vi y), (17, vi 1), (18, vi (pN D p)), (19, vi pl), (20, vr shq)] [] h Q := by
  have hD := hI.1.2.2.1.1
  have d0 := hD.1
  have d1 := hD.2.1
  have d2 := hD.2.2.1
  have d3 := hD.2.2.2.1
  have vcp := hD.vc (p := p) (by omega) (by omega)
  obtain ⟨op1, ⟨np1, np2⟩, cp1, -⟩ := hD.2.2.2.2.2 p (by omega) (by omega)
  refine q_blk (lv2 := [(0, vr b0), (1, vi 1), (2, vi i9), (3, vr o), (4, vr bu), (5, vr r), (6, vr f), (7, vr bf), (8, vi dn), (9, vi n), (10, vr g9), (11, vi 1), (12, vi (-2000000097)), (13, vi (D 3)), (14, vi p), (15, vi x), (16, vi y), (17, vi 1), (18, vi (pN D p)), (19, vi pl), (20, vr shq)]) (st2 := [vi 1]) kL_law_680 rfl ?_
  refine AQ.of (AS.if_eq_f eL_law_682 ⟨by decide, by decide⟩ (by decide) (by decide)) ?_
  refine q_blk (lv2 := [(0, vr b0), (1, vi 1), (2, vi i9), (3, vr o), (4, vr bu), (5, vr r), (6, vr f), (7, vr bf), (8, vi dn), (9, vi n), (10, vr g9), (11, vi 1), (12, vi (-2000000097)), (13, vi (D 3)), (14, vi p), (15, vi x), (16, vi y), (17, vi 1), (18, vi (pN D p)), (19, vi pl), (20, vr shq)]) (st2 := [vi (pN D p), vi pl]) kL_law_685 rfl ?_
  refine AQ.ic_ge (tgt := 696) eL_law_689 (by decide) (by first | assumption | exact ⟨by omega, by omega⟩ | exact ⟨by decide, by decide⟩) (by first | assumption | exact ⟨by omega, by omega⟩ | exact ⟨by decide, by decide⟩) (fun br1 => ?_) (fun br1 => ?_)
  · skip
    refine q_blk (lv2 := [(0, vr b0), (1, vi 1), (2, vi i9), (3, vr o), (4, vr bu), (5, vr r), (6, vr f), (7, vr bf), (8, vi dn), (9, vi n), (10, vr g9), (11, vi 1), (12, vi (-2000000097)), (13, vi (D 3)), (14, vi p), (15, vi x), (16, vi y), (17, vi 1), (18, vi (pN D p)), (19, vi pl), (20, vr shq)]) (st2 := [vi 0]) kL_law_696 rfl ?_
    refine q_blk (lv2 := [(0, vr b0), (1, vi 1), (2, vi i9), (3, vr o), (4, vr bu), (5, vr r), (6, vr f), (7, vr bf), (8, vi dn), (9, vi n), (10, vr g9), (11, vi 0), (12, vi (-2000000097)), (13, vi (D 3)), (14, vi p), (15, vi x), (16, vi y), (17, vi 1), (18, vi (pN D p)), (19, vi pl), (20, vr shq)]) (st2 := [vi 1]) kL_law_697 rfl ?_
    refine AQ.of (AS.if_eq_f eL_law_701 ⟨by decide, by decide⟩ (by decide) (by decide)) ?_
    refine AQ.of (AS.ldc (z := (-2000000100)) eL_law_704 (show Cond.constant RL 52 (Int32.ofInt (-2000000100)) ∈ GW from am_gw 1052 (by decide +kernel) (by decide +kernel))) ?_
    refine q_blk (lv2 := [(0, vr b0), (1, vi 1), (2, vi i9), (3, vr o), (4, vr bu), (5, vr r), (6, vr f), (7, vr bf), (8, vi dn), (9, vi n), (10, vr g9), (11, vi 0), (12, vi (-2000000100)), (13, vi (D 3)), (14, vi p), (15, vi x), (16, vi y), (17, vi 1), (18, vi (pN D p)), (19, vi pl), (20, vr shq)]) (st2 := []) kL_law_706 rfl ?_
    refine q_blk (lv2 := [(0, vr b0), (1, vi 1), (2, vi i9), (3, vr o), (4, vr bu), (5, vr r), (6, vr f), (7, vr bf), (8, vi dn), (9, vi n), (10, vr g9), (11, vi 0), (12, vi (-2000000100)), (13, vi (D 3)), (14, vi p), (15, vi x), (16, vi y), (17, vi 1), (18, vi (pN D p)), (19, vi pl), (20, vr shq)]) (st2 := [vi 0]) kL_law_708 rfl ?_
    refine AQ.of (AS.if_eq_t (tgt := 779) eL_law_710 (by decide) ⟨by decide, by decide⟩ (by decide)) ?_
    refine q_blk (lv2 := [(0, vr b0), (1, vi 1), (2, vi i9), (3, vr o), (4, vr bu), (5, vr r), (6, vr f), (7, vr bf), (8, vi dn), (9, vi n), (10, vr g9), (11, vi 0), (12, vi (-2000000100)), (13, vi (D 3)), (14, vi p), (15, vi x), (16, vi y), (17, vi 1), (18, vi (pN D p)), (19, vi pl), (20, vr shq)]) (st2 := [vi y, vi x, vi pl, vi p, vr o]) kL_law_779 rfl ?_
    refine AQ.callWi (av := [vr o, vi p, vi pl, vi x, vi y]) (st := []) (c_L_bend (c_X8_bend (MID.inc hI).1.1 ⟨by omega, by omega⟩ ⟨by omega, by omega⟩ ⟨by omega, by omega⟩ ⟨by omega, by omega⟩) (MID.inc hI).1.1.ob (fun k h1 q => by rcases q.1 with ⟨_, e⟩ | ⟨_, (⟨_, e⟩ | ⟨_, (⟨_, e⟩ | ⟨_, e⟩)⟩)⟩ <;> first | (cases e; first | exact Or.inl rfl | exact Or.inr (Or.inl rfl) | exact Or.inr (Or.inr rfl)) | exact e.elim)) lkw_L_bend (by omega) rfl rfl (Nat.le_of_ble_eq_true rfl) eL_law_788 (fun z2 h4 e3 => ?_)
    obtain ⟨z2e, z2h⟩ := gx_th (k0 := 1) (fun q => by have := q.1; omega) (fun k q => by rcases q with ⟨a, e⟩ | ⟨_, (⟨a, e⟩ | ⟨_, (⟨a, e⟩ | ⟨a, e⟩)⟩)⟩ <;> first | (cases e; first | rfl | omega) | exact e.elim) e3
    subst z2h
    obtain rfl : z2 = (-2000000100) := z2e
    have z2t : (gm_thr h).2.1 = h.2.1 + 1 := rfl
    have z2s : (gm_thr h).2.2 = h.2.2 + 6 := rfl
    refine q_blk (lv2 := [(0, vr b0), (1, vi 1), (2, vi i9), (3, vr o), (4, vr bu), (5, vr r), (6, vr f), (7, vr bf), (8, vi dn), (9, vi n), (10, vr g9), (11, vi 0), (12, vi (-2000000100)), (13, vi (D 3)), (14, vi p), (15, vi x), (16, vi y), (17, vi 1), (18, vi (pN D p)), (19, vi pl), (20, vr shq)]) (st2 := [vi (-2000000100), vi (-2000000100)]) kL_law_791 rfl ?_
    refine AQ.of (AS.ic_ne_f eL_law_793 ⟨by decide, by decide⟩ ⟨by decide, by decide⟩ rfl (by decide)) ?_
    refine q_blk (lv2 := [(0, vr b0), (1, vi 1), (2, vi i9), (3, vr o), (4, vr bu), (5, vr r), (6, vr f), (7, vr bf), (8, vi dn), (9, vi n), (10, vr g9), (11, vi 0), (12, vi (-2000000100)), (13, vi (D 3)), (14, vi p), (15, vi x), (16, vi y), (17, vi 1), (18, vi (pN D p)), (19, vi pl), (20, vr shq)]) (st2 := [vi 1]) kL_law_796 rfl ?_
    refine q_goto (tgt := 801) eL_law_797 (by decide) ?_
    refine q_blk (lv2 := [(0, vr b0), (1, vi 1), (2, vi i9), (3, vr o), (4, vr bu), (5, vr r), (6, vr f), (7, vr bf), (8, vi dn), (9, vi n), (10, vr g9), (11, vi 0), (12, vi (-2000000100)), (13, vi (D 3)), (14, vi p), (15, vi x), (16, vi y), (17, vi 1), (18, vi (pN D p)), (19, vi pl), (20, vr shq)]) (st2 := []) kL_law_801 rfl ?_
    refine q_goto (tgt := 1123) eL_law_802 (by decide) ?_
    refine q_sub (lv2 := [(0, vr b0), (1, vi 1), (2, vi i9), (3, vr o), (4, vr bu), (5, vr r), (6, vr f), (7, vr bf), (8, vi dn), (9, vi n), (10, vr g9), (11, vi 0)]) [0, 1, 2, 3, 4, 5, 6, 7, 8, 9, 10, 11] rfl ?_
    exact kk 0 (gm_thr h) (RES.no hI) ⟨by omega, by omega⟩
  · skip
    refine q_blk (lv2 := [(0, vr b0), (1, vi 1), (2, vi i9), (3, vr o), (4, vr bu), (5, vr r), (6, vr f), (7, vr bf), (8, vi dn), (9, vi n), (10, vr g9), (11, vi 1), (12, vi (-2000000097)), (13, vi (D 3)), (14, vi p), (15, vi x), (16, vi y), (17, vi 1), (18, vi (pN D p)), (19, vi pl), (20, vr shq)]) (st2 := [vi 1]) kL_law_692 rfl ?_
    refine q_goto (tgt := 697) eL_law_693 (by decide) ?_
    refine q_blk (lv2 := [(0, vr b0), (1, vi 1), (2, vi i9), (3, vr o), (4, vr bu), (5, vr r), (6, vr f), (7, vr bf), (8, vi dn), (9, vi n), (10, vr g9), (11, vi 1), (12, vi (-2000000097)), (13, vi (D 3)), (14, vi p), (15, vi x), (16, vi y), (17, vi 1), (18, vi (pN D p)), (19, vi pl), (20, vr shq)]) (st2 := [vi 1]) kL_law_697 rfl ?_
    refine AQ.of (AS.if_eq_f eL_law_701 ⟨by decide, by decide⟩ (by decide) (by decide)) ?_
    refine AQ.of (AS.ldc (z := (-2000000100)) eL_law_704 (show Cond.constant RL 52 (Int32.ofInt (-2000000100)) ∈ GW from am_gw 1052 (by decide +kernel) (by decide +kernel))) ?_
    refine q_blk (lv2 := [(0, vr b0), (1, vi 1), (2, vi i9), (3, vr o), (4, vr bu), (5, vr r), (6, vr f), (7, vr bf), (8, vi dn), (9, vi n), (10, vr g9), (11, vi 1), (12, vi (-2000000100)), (13, vi (D 3)), (14, vi p), (15, vi x), (16, vi y), (17, vi 1), (18, vi (pN D p)), (19, vi pl), (20, vr shq)]) (st2 := []) kL_law_706 rfl ?_
    refine q_blk (lv2 := [(0, vr b0), (1, vi 1), (2, vi i9), (3, vr o), (4, vr bu), (5, vr r), (6, vr f), (7, vr bf), (8, vi dn), (9, vi n), (10, vr g9), (11, vi 1), (12, vi (-2000000100)), (13, vi (D 3)), (14, vi p), (15, vi x), (16, vi y), (17, vi 1), (18, vi (pN D p)), (19, vi pl), (20, vr shq)]) (st2 := [vi 1]) kL_law_708 rfl ?_
    refine AQ.of (AS.if_eq_f eL_law_710 ⟨by decide, by decide⟩ (by decide) (by decide)) ?_
    refine q_blk (lv2 := [(0, vr b0), (1, vi 1), (2, vi i9), (3, vr o), (4, vr bu), (5, vr r), (6, vr f), (7, vr bf), (8, vi dn), (9, vi n), (10, vr g9), (11, vi 1), (12, vi (-2000000100)), (13, vi (D 3)), (14, vi p), (15, vi x), (16, vi y), (17, vi 1), (18, vi (pN D p)), (19, vi pl), (20, vr shq)]) (st2 := [vi y, vi x, vi pl, vi p, vr f]) kL_law_713 rfl ?_
    refine q_Vi (av := [vi p, vi pl, vi x, vi y]) (st := []) (c_X9_bend hI.1.2.1 hI.1.2.2.1.1 hI.1.2.2.1.2.1 (p := p) (by omega) (by omega) (k := pl) (by omega) (by omega) (x := x) (y := y) ⟨by omega, by omega⟩ ⟨by omega, by omega⟩) lk_RL_275 (by omega) rfl rfl hI.1.2.1.ob ⟨_, rfl, rfl⟩ (Nat.le_of_ble_eq_true rfl) eL_law_723 (fun z5 e6 => ?_)
    have z5r := gm_rB_0r e6
    have z5n : z5 ≠ 0 ∨ pN D p < 12 := by rcases e6 with ⟨a, b⟩ | ⟨a, ⟨b, c⟩ | ⟨b, c⟩⟩ <;> omega
    refine q_blk (lv2 := [(0, vr b0), (1, vi 1), (2, vi i9), (3, vr o), (4, vr bu), (5, vr r), (6, vr f), (7, vr bf), (8, vi dn), (9, vi n), (10, vr g9), (11, vi 1), (12, vi (-2000000100)), (13, vi (D 3)), (14, vi p), (15, vi x), (16, vi y), (17, vi 1), (18, vi (pN D p)), (19, vi pl), (20, vr shq), (22, vi z5)]) (st2 := [vi z5]) kL_law_726 rfl ?_
    refine AQ.if_ne (tgt := 758) eL_law_730 (by decide) (by first | assumption | exact ⟨by omega, by omega⟩ | exact ⟨by decide, by decide⟩) (fun br7 => ?_) (fun br7 => ?_)
    · skip
      refine q_blk (lv2 := [(0, vr b0), (1, vi 1), (2, vi i9), (3, vr o), (4, vr bu), (5, vr r), (6, vr f), (7, vr bf), (8, vi dn), (9, vi n), (10, vr g9), (11, vi 1), (12, vi (-2000000100)), (13, vi (D 3)), (14, vi p), (15, vi x), (16, vi y), (17, vi 1), (18, vi (pN D p)), (19, vi pl), (20, vr shq), (22, vi z5)]) (st2 := [vi z5]) kL_law_758 rfl ?_
      refine AQ.of (AS.if_le_f eL_law_760 (by first | assumption | exact ⟨by omega, by omega⟩ | exact ⟨by decide, by decide⟩) (by omega) (by decide)) ?_
      refine q_blk (lv2 := [(0, vr b0), (1, vi 1), (2, vi i9), (3, vr o), (4, vr bu), (5, vr r), (6, vr f), (7, vr bf), (8, vi dn), (9, vi n), (10, vr g9), (11, vi 1), (12, vi (-2000000100)), (13, vi (D 3)), (14, vi p), (15, vi x), (16, vi y), (17, vi 1), (18, vi (pN D p)), (19, vi pl), (20, vr shq), (22, vi z5)]) (st2 := [vi (-z5)]) kL_law_763 rfl ?_
      refine q_goto (tgt := 777) eL_law_766 (by decide) ?_
      refine q_blk (lv2 := [(0, vr b0), (1, vi 1), (2, vi i9), (3, vr o), (4, vr bu), (5, vr r), (6, vr f), (7, vr bf), (8, vi dn), (9, vi n), (10, vr g9), (11, vi 1), (12, vi (-z5)), (13, vi (D 3)), (14, vi p), (15, vi x), (16, vi y), (17, vi 1), (18, vi (pN D p)), (19, vi pl), (20, vr shq), (22, vi z5)]) (st2 := []) kL_law_777 rfl ?_
      refine q_blk (lv2 := [(0, vr b0), (1, vi 1), (2, vi i9), (3, vr o), (4, vr bu), (5, vr r), (6, vr f), (7, vr bf), (8, vi dn), (9, vi n), (10, vr g9), (11, vi 1), (12, vi (-z5)), (13, vi (D 3)), (14, vi p), (15, vi x), (16, vi y), (17, vi 1), (18, vi (pN D p)), (19, vi pl), (20, vr shq), (22, vi z5)]) (st2 := [vi y, vi x, vi pl, vi p, vr o]) kL_law_779 rfl ?_
      refine AQ.callWi (av := [vr o, vi p, vi pl, vi x, vi y]) (st := []) (c_L_bend (c_X8_bend (MID.inc hI).1.1 ⟨by omega, by omega⟩ ⟨by omega, by omega⟩ ⟨by omega, by omega⟩ ⟨by omega, by omega⟩) (MID.inc hI).1.1.ob (fun k h1 q => by rcases q.1 with ⟨_, e⟩ | ⟨_, (⟨_, e⟩ | ⟨_, (⟨_, e⟩ | ⟨_, e⟩)⟩)⟩ <;> first | (cases e; first | exact Or.inl rfl | exact Or.inr (Or.inl rfl) | exact Or.inr (Or.inr rfl)) | exact e.elim)) lkw_L_bend (by omega) rfl rfl (Nat.le_of_ble_eq_true rfl) eL_law_788 (fun z8 h10 e9 => ?_)
      obtain ⟨-, D9, cm9, z8g, z8c, z8k⟩ := gx_ok (fun k q => by rcases q with ⟨a, e⟩ | ⟨_, (⟨a, e⟩ | ⟨_, (⟨a, e⟩ | ⟨a, e⟩)⟩)⟩ <;> first | omega | exact e.elim) e9
      obtain ⟨q9, q9r, q9c⟩ := z8g
      obtain rfl := (gm_rB_u q9r e6).symm
      obtain ⟨-, z8e, z8D⟩ := q9c.resolve_right (fun z => by have := z.1; omega)
      obtain rfl := z8D.symm
      obtain rfl : z8 = (-z5) := z8e
      have z8R := (MID.inc hI).go z8c z8k
      obtain ⟨⟨z81, z82, z83, z84⟩, -⟩ := z8k
      refine q_blk (lv2 := [(0, vr b0), (1, vi 1), (2, vi i9), (3, vr o), (4, vr bu), (5, vr r), (6, vr f), (7, vr bf), (8, vi dn), (9, vi n), (10, vr g9), (11, vi 1), (12, vi (-z5)), (13, vi (D 3)), (14, vi p), (15, vi x), (16, vi y), (17, vi 1), (18, vi (pN D p)), (19, vi pl), (20, vr shq), (22, vi z5)]) (st2 := [vi (-z5), vi (-z5)]) kL_law_791 rfl ?_
      refine AQ.of (AS.ic_ne_f eL_law_793 (by first | assumption | exact ⟨by omega, by omega⟩ | exact ⟨by decide, by decide⟩) (by first | assumption | exact ⟨by omega, by omega⟩ | exact ⟨by decide, by decide⟩) rfl (by decide)) ?_
      refine q_blk (lv2 := [(0, vr b0), (1, vi 1), (2, vi i9), (3, vr o), (4, vr bu), (5, vr r), (6, vr f), (7, vr bf), (8, vi dn), (9, vi n), (10, vr g9), (11, vi 1), (12, vi (-z5)), (13, vi (D 3)), (14, vi p), (15, vi x), (16, vi y), (17, vi 1), (18, vi (pN D p)), (19, vi pl), (20, vr shq), (22, vi z5)]) (st2 := [vi 1]) kL_law_796 rfl ?_
      refine q_goto (tgt := 801) eL_law_797 (by decide) ?_
      refine q_blk (lv2 := [(0, vr b0), (1, vi 1), (2, vi i9), (3, vr o), (4, vr bu), (5, vr r), (6, vr f), (7, vr bf), (8, vi dn), (9, vi n), (10, vr g9), (11, vi 1), (12, vi (-z5)), (13, vi (D 3)), (14, vi p), (15, vi x), (16, vi y), (17, vi 1), (18, vi (pN D p)), (19, vi pl), (20, vr shq), (22, vi z5)]) (st2 := []) kL_law_801 rfl ?_
      refine q_goto (tgt := 1123) eL_law_802 (by decide) ?_
      refine q_sub (lv2 := [(0, vr b0), (1, vi 1), (2, vi i9), (3, vr o), (4, vr bu), (5, vr r), (6, vr f), (7, vr bf), (8, vi dn), (9, vi n), (10, vr g9), (11, vi 1)]) [0, 1, 2, 3, 4, 5, 6, 7, 8, 9, 10, 11] rfl ?_
      exact kk 1 h10 z8R ⟨by omega, by omega⟩
    · skip
      refine q_blk (lv2 := [(0, vr b0), (1, vi 1), (2, vi i9), (3, vr o), (4, vr bu), (5, vr r), (6, vr f), (7, vr bf), (8, vi dn), (9, vi n), (10, vr g9), (11, vi 1), (12, vi (-2000000100)), (13, vi (D 3)), (14, vi p), (15, vi x), (16, vi y), (17, vi 1), (18, vi (pN D p)), (19, vi pl), (20, vr shq), (22, vi z5)]) (st2 := [vr shq, vr shq]) kL_law_733 rfl ?_
      obtain ⟨⟨bf11, bs11, bp11⟩, C011, ⟨fz111, C111⟩, ⟨fz211, C211⟩, hst, hsh, hij⟩ := id hI.1.2.1
      obtain ⟨q12, g12, l12⟩ := hsh p (by omega) (by omega)
      rw [hsq] at g12; obtain rfl := Option.some.inj g12
      obtain ⟨ca12, cf12, ⟨w12, u12⟩, c12, d12, e12⟩ := id l12
      have hsl12 := w12.1.2
      have hcl12 := u12.1.2
      refine q_gr eL_law_737 fl_RL_178 (Or.inr ⟨_, rfl⟩) c12 rfl ?_
      refine q_blk (lv2 := [(0, vr b0), (1, vi 1), (2, vi i9), (3, vr o), (4, vr bu), (5, vr r), (6, vr f), (7, vr bf), (8, vi dn), (9, vi n), (10, vr g9), (11, vi 1), (12, vi (-2000000100)), (13, vi (D 3)), (14, vi p), (15, vi x), (16, vi y), (17, vi 1), (18, vi (pN D p)), (19, vi pl), (20, vr shq), (22, vi z5)]) (st2 := [vi ((100 * x) + y), vi (pl + 1), vr ca12, vr shq]) kL_law_740 rfl ?_
      refine AQ.callSr (av := [vr ca12, vi (pl + 1), vi ((100 * x) + y)]) (st := [vr shq]) (c_L_put_ d12 hcl12 ⟨by omega, by omega⟩ ⟨by omega, by omega⟩ (by omega)) lk_RL_183 (by omega) rfl rfl (Nat.le_of_ble_eq_true rfl) eL_law_752 (fun z13 h15 e14 => ?_)
      obtain ⟨⟨g16a, g16b⟩, ⟨g16n, g16c, g16e⟩, g16k⟩ := e14
      obtain ⟨-, ⟨g16u, g16v⟩, g16y, g16z⟩ := id g16k
      have g16l := hsl12
      have g16q := (g16k.1 shq g16l id).trans c12
      refine q_pr eL_law_755 fl_RL_178 (fun q hq => by cases hq; exact Or.inl rfl) (Or.inr ⟨_, rfl⟩) g16q (Nat.le_of_ble_eq_true rfl) (l2 := [none, none, some z13]) rfl (fun h17 e18 => ?_)
      have e18u : h17.2.1 = h15.2.1 := congrArg Prod.fst (am_z e18)
      have e18v : h17.2.2 = h15.2.2 := congrArg Prod.snd (am_z e18)
      have e18F : ∀ q, q < h.2.1 → q ≠ shq → h17.1 q = h.1 q := (fun q q0 q1 => (am_ne e18 q q1).trans (g16k.1 q q0 id))
      have e18K : KF h h17 (fun q => q = shq) 1 12 := ⟨fun q q0 q1 => e18F q q0 q1, ⟨by omega, by omega⟩, by omega, by omega⟩
      have e18S := FLD.setP hI.1.2.1 hD (fun q b => b.1.2) (p := p) (n := (pN D p + 1)) (c := pC D p) (xs := (gm_in (pl + 1) x (pX D p))) (ys := (gm_in (pl + 1) y (pY D p))) (by omega) (by omega) hsq e18F (by omega) (am_at e18) ((am_ne e18 z13 (by omega)).trans g16c) (Or.inr ⟨by omega, by omega⟩) (fun j j0 j1 => (g16e j j0 j1).trans (gm_in_xy e12 (by omega) (by omega) j0 j1))
      have e183 : (gm_bnD D p pl x y) 3 = D 3 := gm_setP_o (by omega)
      have e18M := hI.op (E := (gm_bnD D p pl x y)) e18K (fun q z => Or.inr ⟨p, by omega, by omega, by rw [show q = shq from z]; exact hsq⟩) e18S (hI.1.2.2.1.bnD (by omega) (by omega) (by omega) (by omega) ⟨by omega, by omega⟩ ⟨by omega, by omega⟩ (by have q := e6; rw [show z5 = 0 by omega] at q; exact q)) (fun q m => Or.inl (by rw [e183] at m; exact m))
      refine q_blk (lv2 := [(0, vr b0), (1, vi 1), (2, vi i9), (3, vr o), (4, vr bu), (5, vr r), (6, vr f), (7, vr bf), (8, vi dn), (9, vi n), (10, vr g9), (11, vi 1), (12, vi (-2000000100)), (13, vi (D 3)), (14, vi p), (15, vi x), (16, vi y), (17, vi 1), (18, vi (pN D p)), (19, vi pl), (20, vr shq), (22, vi z5)]) (st2 := [vi z5]) kL_law_758 rfl ?_
      refine AQ.of (AS.if_le_t (tgt := 769) eL_law_760 (by decide) (by first | assumption | exact ⟨by omega, by omega⟩ | exact ⟨by decide, by decide⟩) (by omega)) ?_
      refine q_blk (lv2 := [(0, vr b0), (1, vi 1), (2, vi i9), (3, vr o), (4, vr bu), (5, vr r), (6, vr f), (7, vr bf), (8, vi dn), (9, vi n), (10, vr g9), (11, vi 1), (12, vi (-2000000100)), (13, vi (D 3)), (14, vi p), (15, vi x), (16, vi y), (17, vi 1), (18, vi (pN D p)), (19, vi pl), (20, vr shq), (22, vi z5)]) (st2 := [vr shq]) kL_law_769 rfl ?_
      obtain ⟨qd, gd, ld⟩ := e18M.2.1.1.2.2.2.2.2.1 p (by omega) (by omega)
      rw [hsq] at gd; obtain rfl := Option.some.inj gd
      obtain ⟨-, ⟨nd1, nd2⟩, -, -⟩ := e18M.2.1.2.1.1.2.2.2.2.2 p (by omega) (by omega)
      have vd := e18M.2.1.2.1.1.vc (p := p) (by omega) (by omega)
      refine q_Vi (av := []) (st := []) (c_X12_doubled ld vd nd1 nd2) lk_RL_276 (by omega) rfl rfl ld.ob ⟨_, rfl, rfl⟩ (Nat.le_of_ble_eq_true rfl) eL_law_771 (fun z19 e20 => ?_)
      have z19r : -10800 ≤ z19 ∧ z19 ≤ 10800 := by rw [e20]; exact gm_ar_r vd (by omega) (by omega)
      refine AQ.of (AS.mabs eL_law_774 (by first | assumption | exact ⟨by omega, by omega⟩ | exact ⟨by decide, by decide⟩) (show Cond.methodLink RL 112 _ ∈ GW from am_gw 551 (by decide +kernel) (by decide +kernel)) (am_gw 372 (by decide +kernel) (by decide +kernel)) (am_gw 53 (by decide +kernel) (by decide +kernel)) (am_gw 373 (by decide +kernel) (by decide +kernel)) (by omega) (Nat.le_of_ble_eq_true rfl)) ?_
      obtain ⟨z21, e22⟩ : ∃ q : Int, q = (if 0 ≤ z19 then z19 else -z19) := ⟨_, rfl⟩
      rw [← e22]
      have z21r : 0 ≤ z21 ∧ z21 ≤ 10800 := by rw [e22]; split <;> omega
      refine q_blk (lv2 := [(0, vr b0), (1, vi 1), (2, vi i9), (3, vr o), (4, vr bu), (5, vr r), (6, vr f), (7, vr bf), (8, vi dn), (9, vi n), (10, vr g9), (11, vi 1), (12, vi z21), (13, vi (D 3)), (14, vi p), (15, vi x), (16, vi y), (17, vi 1), (18, vi (pN D p)), (19, vi pl), (20, vr shq), (22, vi z5)]) (st2 := []) kL_law_777 rfl ?_
      refine q_blk (lv2 := [(0, vr b0), (1, vi 1), (2, vi i9), (3, vr o), (4, vr bu), (5, vr r), (6, vr f), (7, vr bf), (8, vi dn), (9, vi n), (10, vr g9), (11, vi 1), (12, vi z21), (13, vi (D 3)), (14, vi p), (15, vi x), (16, vi y), (17, vi 1), (18, vi (pN D p)), (19, vi pl), (20, vr shq), (22, vi z5)]) (st2 := [vi y, vi x, vi pl, vi p, vr o]) kL_law_779 rfl ?_
      refine AQ.callWi (av := [vr o, vi p, vi pl, vi x, vi y]) (st := []) (c_L_bend (c_X8_bend e18M.1.1 ⟨by omega, by omega⟩ ⟨by omega, by omega⟩ ⟨by omega, by omega⟩ ⟨by omega, by omega⟩) e18M.1.1.ob (fun k h1 q => by rcases q.1 with ⟨_, e⟩ | ⟨_, (⟨_, e⟩ | ⟨_, (⟨_, e⟩ | ⟨_, e⟩)⟩)⟩ <;> first | (cases e; first | exact Or.inl rfl | exact Or.inr (Or.inl rfl) | exact Or.inr (Or.inr rfl)) | exact e.elim)) lkw_L_bend (by omega) rfl rfl (Nat.le_of_ble_eq_true rfl) eL_law_788 (fun z23 h25 e24 => ?_)
      obtain ⟨-, D9, cm9, z23g, z23c, z23k⟩ := gx_ok (fun k q => by rcases q with ⟨a, e⟩ | ⟨_, (⟨a, e⟩ | ⟨_, (⟨a, e⟩ | ⟨a, e⟩)⟩)⟩ <;> first | omega | exact e.elim) e24
      obtain ⟨q9, q9r, q9c⟩ := z23g
      obtain rfl := (gm_rB_u q9r e6).symm
      obtain ⟨-, z23e, rfl⟩ := q9c.resolve_left (fun z => z.1 (by omega))
      have z23e := z23e.trans (show gm_arD (gm_bnD D p pl x y) p = z21 from by rw [e22, e20]; rfl)
      obtain rfl := (z23e).symm
      have z23R := e18M.go z23c z23k
      obtain ⟨⟨z231, z232, z233, z234⟩, -⟩ := z23k
      refine q_blk (lv2 := [(0, vr b0), (1, vi 1), (2, vi i9), (3, vr o), (4, vr bu), (5, vr r), (6, vr f), (7, vr bf), (8, vi dn), (9, vi n), (10, vr g9), (11, vi 1), (12, vi z21), (13, vi (D 3)), (14, vi p), (15, vi x), (16, vi y), (17, vi 1), (18, vi (pN D p)), (19, vi pl), (20, vr shq), (22, vi z5)]) (st2 := [vi z21, vi z21]) kL_law_791 rfl ?_
      refine AQ.of (AS.ic_ne_f eL_law_793 (by first | assumption | exact ⟨by omega, by omega⟩ | exact ⟨by decide, by decide⟩) (by first | assumption | exact ⟨by omega, by omega⟩ | exact ⟨by decide, by decide⟩) rfl (by decide)) ?_
      refine q_blk (lv2 := [(0, vr b0), (1, vi 1), (2, vi i9), (3, vr o), (4, vr bu), (5, vr r), (6, vr f), (7, vr bf), (8, vi dn), (9, vi n), (10, vr g9), (11, vi 1), (12, vi z21), (13, vi (D 3)), (14, vi p), (15, vi x), (16, vi y), (17, vi 1), (18, vi (pN D p)), (19, vi pl), (20, vr shq), (22, vi z5)]) (st2 := [vi 1]) kL_law_796 rfl ?_
      refine q_goto (tgt := 801) eL_law_797 (by decide) ?_
      refine q_blk (lv2 := [(0, vr b0), (1, vi 1), (2, vi i9), (3, vr o), (4, vr bu), (5, vr r), (6, vr f), (7, vr bf), (8, vi dn), (9, vi n), (10, vr g9), (11, vi 1), (12, vi z21), (13, vi (D 3)), (14, vi p), (15, vi x), (16, vi y), (17, vi 1), (18, vi (pN D p)), (19, vi pl), (20, vr shq), (22, vi z5)]) (st2 := []) kL_law_801 rfl ?_
      refine q_goto (tgt := 1123) eL_law_802 (by decide) ?_
      refine q_sub (lv2 := [(0, vr b0), (1, vi 1), (2, vi i9), (3, vr o), (4, vr bu), (5, vr r), (6, vr f), (7, vr bf), (8, vi dn), (9, vi n), (10, vr g9), (11, vi 1)]) [0, 1, 2, 3, 4, 5, 6, 7, 8, 9, 10, 11] rfl ?_
      exact kk 1 h25 z23R ⟨by omega, by omega⟩

set_option maxRecDepth 4000 in
set_option maxHeartbeats 8000000 in
theorem sg_ben0 {nm : String} {TT : List (Nat × Nat × Nat × Nat)} {w : am_w} {d b0 : Nat} {i9 dn n : Int} {Q : RV → AH → Prop} {h : AH} {o bu r bf f sa pa : Nat} {gs gp : Int → Option Nat} {T : Option Nat} {L : GL} {D cm : Int → Int} {sc : Nat} {tx : Int → Int} {bl le : Int} {Hs H1 : List GE} {g9 : Nat} {pl p x y : Int} (hd : 90 ≤ d) (hI : INC w o bu r bf f sa pa gs gp T L h D cm sc tx bl le Hs H1 g9) (hp : p = D 3) (hpl : 0 ≤ pl ∧ pl ≤ 30) (hxx : 0 ≤ x ∧ x ≤ D 0) (hyy : 0 ≤ y ∧ y ≤ D 1) (kk : ∀ (ch : Int) (h1 : AH), RES w o bu r bf f sa gs T L h1 D cm sc tx bl le Hs H1 g9 ch → (h1.2.1 ≤ h.2.1 + 16 ∧ h1.2.2 ≤ h.2.2 + 40) → AQ w (mL nm TT) d 1123 [(0, vr b0), (1, vi 1), (2, vi i9), (3, vr o), (4, vr bu), (5, vr r), (6, vr f), (7, vr bf), (8, vi dn), (9, vi n), (10, vr g9), (11, vi ch)] [] h1 Q)  : AQ w (mL nm TT) d 680 [(0, vr b0), (1, vi 1), (2, vi i9), (3, vr o), (4, vr bu), (5, vr r), (6, vr f), (7, vr bf), (8, vi dn), (9, vi n), (10, vr g9), (11, vi 1), (12, vi (-2000000097)), (13, vi (D 3)), (14, vi p), (15, vi x), (16, vi y), (17, vi 0), (18, vi 0), (19, vi pl)] [] h Q := by
  have hD := hI.1.2.2.1.1
  have d0 := hD.1
  have d1 := hD.2.1
  have d2 := hD.2.2.1
  have d3 := hD.2.2.2.1
  refine q_blk (lv2 := [(0, vr b0), (1, vi 1), (2, vi i9), (3, vr o), (4, vr bu), (5, vr r), (6, vr f), (7, vr bf), (8, vi dn), (9, vi n), (10, vr g9), (11, vi 1), (12, vi (-2000000097)), (13, vi (D 3)), (14, vi p), (15, vi x), (16, vi y), (17, vi 0), (18, vi 0), (19, vi pl)]) (st2 := [vi 0]) kL_law_680 rfl ?_
  refine AQ.of (AS.if_eq_t (tgt := 696) eL_law_682 (by decide) ⟨by decide, by decide⟩ (by decide)) ?_
  refine q_blk (lv2 := [(0, vr b0), (1, vi 1), (2, vi i9), (3, vr o), (4, vr bu), (5, vr r), (6, vr f), (7, vr bf), (8, vi dn), (9, vi n), (10, vr g9), (11, vi 1), (12, vi (-2000000097)), (13, vi (D 3)), (14, vi p), (15, vi x), (16, vi y), (17, vi 0), (18, vi 0), (19, vi pl)]) (st2 := [vi 0]) kL_law_696 rfl ?_
  refine q_blk (lv2 := [(0, vr b0), (1, vi 1), (2, vi i9), (3, vr o), (4, vr bu), (5, vr r), (6, vr f), (7, vr bf), (8, vi dn), (9, vi n), (10, vr g9), (11, vi 0), (12, vi (-2000000097)), (13, vi (D 3)), (14, vi p), (15, vi x), (16, vi y), (17, vi 0), (18, vi 0), (19, vi pl)]) (st2 := [vi 0]) kL_law_697 rfl ?_
  refine AQ.of (AS.if_eq_t (tgt := 708) eL_law_701 (by decide) ⟨by decide, by decide⟩ (by decide)) ?_
  refine q_blk (lv2 := [(0, vr b0), (1, vi 1), (2, vi i9), (3, vr o), (4, vr bu), (5, vr r), (6, vr f), (7, vr bf), (8, vi dn), (9, vi n), (10, vr g9), (11, vi 0), (12, vi (-2000000097)), (13, vi (D 3)), (14, vi p), (15, vi x), (16, vi y), (17, vi 0), (18, vi 0), (19, vi pl)]) (st2 := [vi 0]) kL_law_708 rfl ?_
  refine AQ.of (AS.if_eq_t (tgt := 779) eL_law_710 (by decide) ⟨by decide, by decide⟩ (by decide)) ?_
  refine q_blk (lv2 := [(0, vr b0), (1, vi 1), (2, vi i9), (3, vr o), (4, vr bu), (5, vr r), (6, vr f), (7, vr bf), (8, vi dn), (9, vi n), (10, vr g9), (11, vi 0), (12, vi (-2000000097)), (13, vi (D 3)), (14, vi p), (15, vi x), (16, vi y), (17, vi 0), (18, vi 0), (19, vi pl)]) (st2 := [vi y, vi x, vi pl, vi p, vr o]) kL_law_779 rfl ?_
  refine AQ.callWi (av := [vr o, vi p, vi pl, vi x, vi y]) (st := []) (c_L_bend (c_X8_bend (MID.inc hI).1.1 ⟨by omega, by omega⟩ ⟨by omega, by omega⟩ ⟨by omega, by omega⟩ ⟨by omega, by omega⟩) (MID.inc hI).1.1.ob (fun k h1 q => by rcases q.1 with ⟨_, e⟩ | ⟨_, (⟨_, e⟩ | ⟨_, (⟨_, e⟩ | ⟨_, e⟩)⟩)⟩ <;> first | (cases e; first | exact Or.inl rfl | exact Or.inr (Or.inl rfl) | exact Or.inr (Or.inr rfl)) | exact e.elim)) lkw_L_bend (by omega) rfl rfl (Nat.le_of_ble_eq_true rfl) eL_law_788 (fun z1 h3 e2 => ?_)
  obtain ⟨z1e, z1h⟩ := gx_th (k0 := 2) (fun q => by have := q.1; omega) (fun k q => by rcases q with ⟨a, e⟩ | ⟨_, (⟨a, e⟩ | ⟨_, (⟨a, e⟩ | ⟨a, e⟩)⟩)⟩ <;> first | (cases e; first | rfl | omega) | exact e.elim) e2
  subst z1h
  obtain rfl : z1 = (-2000000097) := z1e
  have z1t : (gm_thr h).2.1 = h.2.1 + 1 := rfl
  have z1s : (gm_thr h).2.2 = h.2.2 + 6 := rfl
  refine q_blk (lv2 := [(0, vr b0), (1, vi 1), (2, vi i9), (3, vr o), (4, vr bu), (5, vr r), (6, vr f), (7, vr bf), (8, vi dn), (9, vi n), (10, vr g9), (11, vi 0), (12, vi (-2000000097)), (13, vi (D 3)), (14, vi p), (15, vi x), (16, vi y), (17, vi 0), (18, vi 0), (19, vi pl)]) (st2 := [vi (-2000000097), vi (-2000000097)]) kL_law_791 rfl ?_
  refine AQ.of (AS.ic_ne_f eL_law_793 ⟨by decide, by decide⟩ ⟨by decide, by decide⟩ rfl (by decide)) ?_
  refine q_blk (lv2 := [(0, vr b0), (1, vi 1), (2, vi i9), (3, vr o), (4, vr bu), (5, vr r), (6, vr f), (7, vr bf), (8, vi dn), (9, vi n), (10, vr g9), (11, vi 0), (12, vi (-2000000097)), (13, vi (D 3)), (14, vi p), (15, vi x), (16, vi y), (17, vi 0), (18, vi 0), (19, vi pl)]) (st2 := [vi 1]) kL_law_796 rfl ?_
  refine q_goto (tgt := 801) eL_law_797 (by decide) ?_
  refine q_blk (lv2 := [(0, vr b0), (1, vi 1), (2, vi i9), (3, vr o), (4, vr bu), (5, vr r), (6, vr f), (7, vr bf), (8, vi dn), (9, vi n), (10, vr g9), (11, vi 0), (12, vi (-2000000097)), (13, vi (D 3)), (14, vi p), (15, vi x), (16, vi y), (17, vi 0), (18, vi 0), (19, vi pl)]) (st2 := []) kL_law_801 rfl ?_
  refine q_goto (tgt := 1123) eL_law_802 (by decide) ?_
  refine q_sub (lv2 := [(0, vr b0), (1, vi 1), (2, vi i9), (3, vr o), (4, vr bu), (5, vr r), (6, vr f), (7, vr bf), (8, vi dn), (9, vi n), (10, vr g9), (11, vi 0)]) [0, 1, 2, 3, 4, 5, 6, 7, 8, 9, 10, 11] rfl ?_
  exact kk 0 (gm_thr h) (RES.no hI) ⟨by omega, by omega⟩

set_option maxRecDepth 4000 in
set_option maxHeartbeats 8000000 in
theorem sg_out1 {nm : String} {TT : List (Nat × Nat × Nat × Nat)} {w : am_w} {d b0 : Nat} {i9 dn n : Int} {Q : RV → AH → Prop} {h : AH} {o bu r bf f sa pa : Nat} {gs gp : Int → Option Nat} {T : Option Nat} {L : GL} {D cm : Int → Int} {sc : Nat} {tx : Int → Int} {bl le : Int} {Hs H1 : List GE} {g9 shq : Nat} {pl p x y : Int} (hd : 90 ≤ d) (hsq : gp p = some shq) (hI : INC w o bu r bf f sa pa gs gp T L h D cm sc tx bl le Hs H1 g9) (hp : 0 ≤ p ∧ p < D 3) (hpl : 0 ≤ pl ∧ pl ≤ pN D p) (hxx : 0 ≤ x ∧ x ≤ D 0) (hyy : 0 ≤ y ∧ y ≤ D 1) (kk : ∀ (ch : Int) (h1 : AH), RES w o bu r bf f sa gs T L h1 D cm sc tx bl le Hs H1 g9 ch → (h1.2.1 ≤ h.2.1 + 16 ∧ h1.2.2 ≤ h.2.2 + 40) → AQ w (mL nm TT) d 1123 [(0, vr b0), (1, vi 1), (2, vi i9), (3, vr o), (4, vr bu), (5, vr r), (6, vr f), (7, vr bf), (8, vi dn), (9, vi n), (10, vr g9), (11, vi ch)] [] h1 Q)  : AQ w (mL nm TT) d 805 [(0, vr b0), (1, vi 1), (2, vi i9), (3, vr o), (4, vr bu), (5, vr r), (6, vr f), (7, vr bf), (8, vi dn), (9, vi n), (10, vr g9), (11, vi 1), (12, vi (-2000000097)), (13, vi (D 3)), (14, vi p), (15, vi x), (16, vi y), (17, vi 1), (18, vi (pN D p)), (19, vi pl), (20, vr shq)] [] h Q := by
  have hD := hI.1.2.2.1.1
  have d0 := hD.1
  have d1 := hD.2.1
  have d2 := hD.2.2.1
  have d3 := hD.2.2.2.1
  have vcp := hD.vc (p := p) (by omega) (by omega)
  obtain ⟨op1, ⟨np1, np2⟩, cp1, -⟩ := hD.2.2.2.2.2 p (by omega) (by omega)
  refine q_blk (lv2 := [(0, vr b0), (1, vi 1), (2, vi i9), (3, vr o), (4, vr bu), (5, vr r), (6, vr f), (7, vr bf), (8, vi dn), (9, vi n), (10, vr g9), (11, vi 1), (12, vi (-2000000097)), (13, vi (D 3)), (14, vi p), (15, vi x), (16, vi y), (17, vi 1), (18, vi (pN D p)), (19, vi pl), (20, vr shq)]) (st2 := [vi 1]) kL_law_805 rfl ?_
  refine AQ.of (AS.if_eq_f eL_law_807 ⟨by decide, by decide⟩ (by decide) (by decide)) ?_
  refine q_blk (lv2 := [(0, vr b0), (1, vi 1), (2, vi i9), (3, vr o), (4, vr bu), (5, vr r), (6, vr f), (7, vr bf), (8, vi dn), (9, vi n), (10, vr g9), (11, vi 1), (12, vi (-2000000097)), (13, vi (D 3)), (14, vi p), (15, vi x), (16, vi y), (17, vi 1), (18, vi (pN D p)), (19, vi pl), (20, vr shq)]) (st2 := [vi (pN D p), vi pl]) kL_law_810 rfl ?_
  refine AQ.ic_ge (tgt := 821) eL_law_814 (by decide) (by first | assumption | exact ⟨by omega, by omega⟩ | exact ⟨by decide, by decide⟩) (by first | assumption | exact ⟨by omega, by omega⟩ | exact ⟨by decide, by decide⟩) (fun br1 => ?_) (fun br1 => ?_)
  · skip
    refine q_blk (lv2 := [(0, vr b0), (1, vi 1), (2, vi i9), (3, vr o), (4, vr bu), (5, vr r), (6, vr f), (7, vr bf), (8, vi dn), (9, vi n), (10, vr g9), (11, vi 1), (12, vi (-2000000097)), (13, vi (D 3)), (14, vi p), (15, vi x), (16, vi y), (17, vi 1), (18, vi (pN D p)), (19, vi pl), (20, vr shq)]) (st2 := [vi 0]) kL_law_821 rfl ?_
    refine q_blk (lv2 := [(0, vr b0), (1, vi 1), (2, vi i9), (3, vr o), (4, vr bu), (5, vr r), (6, vr f), (7, vr bf), (8, vi dn), (9, vi n), (10, vr g9), (11, vi 0), (12, vi (-2000000097)), (13, vi (D 3)), (14, vi p), (15, vi x), (16, vi y), (17, vi 1), (18, vi (pN D p)), (19, vi pl), (20, vr shq)]) (st2 := [vi 1]) kL_law_822 rfl ?_
    refine AQ.of (AS.if_eq_f eL_law_826 ⟨by decide, by decide⟩ (by decide) (by decide)) ?_
    refine AQ.of (AS.ldc (z := (-2000000100)) eL_law_829 (show Cond.constant RL 52 (Int32.ofInt (-2000000100)) ∈ GW from am_gw 1052 (by decide +kernel) (by decide +kernel))) ?_
    refine q_blk (lv2 := [(0, vr b0), (1, vi 1), (2, vi i9), (3, vr o), (4, vr bu), (5, vr r), (6, vr f), (7, vr bf), (8, vi dn), (9, vi n), (10, vr g9), (11, vi 0), (12, vi (-2000000100)), (13, vi (D 3)), (14, vi p), (15, vi x), (16, vi y), (17, vi 1), (18, vi (pN D p)), (19, vi pl), (20, vr shq)]) (st2 := []) kL_law_831 rfl ?_
    refine q_blk (lv2 := [(0, vr b0), (1, vi 1), (2, vi i9), (3, vr o), (4, vr bu), (5, vr r), (6, vr f), (7, vr bf), (8, vi dn), (9, vi n), (10, vr g9), (11, vi 0), (12, vi (-2000000100)), (13, vi (D 3)), (14, vi p), (15, vi x), (16, vi y), (17, vi 1), (18, vi (pN D p)), (19, vi pl), (20, vr shq)]) (st2 := [vi 0]) kL_law_833 rfl ?_
    refine AQ.of (AS.if_eq_t (tgt := 890) eL_law_835 (by decide) ⟨by decide, by decide⟩ (by decide)) ?_
    refine q_blk (lv2 := [(0, vr b0), (1, vi 1), (2, vi i9), (3, vr o), (4, vr bu), (5, vr r), (6, vr f), (7, vr bf), (8, vi dn), (9, vi n), (10, vr g9), (11, vi 0), (12, vi (-2000000100)), (13, vi (D 3)), (14, vi p), (15, vi x), (16, vi y), (17, vi 1), (18, vi (pN D p)), (19, vi pl), (20, vr shq)]) (st2 := [vi pl, vi p, vr o]) kL_law_890 rfl ?_
    refine AQ.callWi (av := [vr o, vi p, vi pl]) (st := []) (c_L_takeOut (c_X8_takeOut (MID.inc hI).1.1 ⟨by omega, by omega⟩ ⟨by omega, by omega⟩) (MID.inc hI).1.1.ob (fun k h1 q => by rcases q.1 with ⟨_, e⟩ | ⟨_, (⟨_, e⟩ | ⟨_, e⟩)⟩ <;> first | (cases e; first | exact Or.inl rfl | exact Or.inr rfl) | exact e.elim)) lkw_L_takeOut (by omega) rfl rfl (Nat.le_of_ble_eq_true rfl) eL_law_895 (fun z2 h4 e3 => ?_)
    obtain ⟨z2e, z2h⟩ := gx_th (k0 := 1) (fun q => by have := q.1; omega) (fun k q => by rcases q with ⟨a, e⟩ | ⟨_, (⟨a, e⟩ | ⟨a, e⟩)⟩ <;> first | (cases e; first | rfl | omega) | exact e.elim) e3
    subst z2h
    obtain rfl : z2 = (-2000000100) := z2e
    have z2t : (gm_thr h).2.1 = h.2.1 + 1 := rfl
    have z2s : (gm_thr h).2.2 = h.2.2 + 6 := rfl
    refine q_blk (lv2 := [(0, vr b0), (1, vi 1), (2, vi i9), (3, vr o), (4, vr bu), (5, vr r), (6, vr f), (7, vr bf), (8, vi dn), (9, vi n), (10, vr g9), (11, vi 0), (12, vi (-2000000100)), (13, vi (D 3)), (14, vi p), (15, vi x), (16, vi y), (17, vi 1), (18, vi (pN D p)), (19, vi pl), (20, vr shq)]) (st2 := [vi (-2000000100), vi (-2000000100)]) kL_law_898 rfl ?_
    refine AQ.of (AS.ic_ne_f eL_law_900 ⟨by decide, by decide⟩ ⟨by decide, by decide⟩ rfl (by decide)) ?_
    refine q_blk (lv2 := [(0, vr b0), (1, vi 1), (2, vi i9), (3, vr o), (4, vr bu), (5, vr r), (6, vr f), (7, vr bf), (8, vi dn), (9, vi n), (10, vr g9), (11, vi 0), (12, vi (-2000000100)), (13, vi (D 3)), (14, vi p), (15, vi x), (16, vi y), (17, vi 1), (18, vi (pN D p)), (19, vi pl), (20, vr shq)]) (st2 := [vi 1]) kL_law_903 rfl ?_
    refine q_goto (tgt := 908) eL_law_904 (by decide) ?_
    refine q_blk (lv2 := [(0, vr b0), (1, vi 1), (2, vi i9), (3, vr o), (4, vr bu), (5, vr r), (6, vr f), (7, vr bf), (8, vi dn), (9, vi n), (10, vr g9), (11, vi 0), (12, vi (-2000000100)), (13, vi (D 3)), (14, vi p), (15, vi x), (16, vi y), (17, vi 1), (18, vi (pN D p)), (19, vi pl), (20, vr shq)]) (st2 := []) kL_law_908 rfl ?_
    refine q_goto (tgt := 1123) eL_law_909 (by decide) ?_
    refine q_sub (lv2 := [(0, vr b0), (1, vi 1), (2, vi i9), (3, vr o), (4, vr bu), (5, vr r), (6, vr f), (7, vr bf), (8, vi dn), (9, vi n), (10, vr g9), (11, vi 0)]) [0, 1, 2, 3, 4, 5, 6, 7, 8, 9, 10, 11] rfl ?_
    exact kk 0 (gm_thr h) (RES.no hI) ⟨by omega, by omega⟩
  · skip
    refine q_blk (lv2 := [(0, vr b0), (1, vi 1), (2, vi i9), (3, vr o), (4, vr bu), (5, vr r), (6, vr f), (7, vr bf), (8, vi dn), (9, vi n), (10, vr g9), (11, vi 1), (12, vi (-2000000097)), (13, vi (D 3)), (14, vi p), (15, vi x), (16, vi y), (17, vi 1), (18, vi (pN D p)), (19, vi pl), (20, vr shq)]) (st2 := [vi 1]) kL_law_817 rfl ?_
    refine q_goto (tgt := 822) eL_law_818 (by decide) ?_
    refine q_blk (lv2 := [(0, vr b0), (1, vi 1), (2, vi i9), (3, vr o), (4, vr bu), (5, vr r), (6, vr f), (7, vr bf), (8, vi dn), (9, vi n), (10, vr g9), (11, vi 1), (12, vi (-2000000097)), (13, vi (D 3)), (14, vi p), (15, vi x), (16, vi y), (17, vi 1), (18, vi (pN D p)), (19, vi pl), (20, vr shq)]) (st2 := [vi 1]) kL_law_822 rfl ?_
    refine AQ.of (AS.if_eq_f eL_law_826 ⟨by decide, by decide⟩ (by decide) (by decide)) ?_
    refine AQ.of (AS.ldc (z := (-2000000100)) eL_law_829 (show Cond.constant RL 52 (Int32.ofInt (-2000000100)) ∈ GW from am_gw 1052 (by decide +kernel) (by decide +kernel))) ?_
    refine q_blk (lv2 := [(0, vr b0), (1, vi 1), (2, vi i9), (3, vr o), (4, vr bu), (5, vr r), (6, vr f), (7, vr bf), (8, vi dn), (9, vi n), (10, vr g9), (11, vi 1), (12, vi (-2000000100)), (13, vi (D 3)), (14, vi p), (15, vi x), (16, vi y), (17, vi 1), (18, vi (pN D p)), (19, vi pl), (20, vr shq)]) (st2 := []) kL_law_831 rfl ?_
    refine q_blk (lv2 := [(0, vr b0), (1, vi 1), (2, vi i9), (3, vr o), (4, vr bu), (5, vr r), (6, vr f), (7, vr bf), (8, vi dn), (9, vi n), (10, vr g9), (11, vi 1), (12, vi (-2000000100)), (13, vi (D 3)), (14, vi p), (15, vi x), (16, vi y), (17, vi 1), (18, vi (pN D p)), (19, vi pl), (20, vr shq)]) (st2 := [vi 1]) kL_law_833 rfl ?_
    refine AQ.of (AS.if_eq_f eL_law_835 ⟨by decide, by decide⟩ (by decide) (by decide)) ?_
    refine q_blk (lv2 := [(0, vr b0), (1, vi 1), (2, vi i9), (3, vr o), (4, vr bu), (5, vr r), (6, vr f), (7, vr bf), (8, vi dn), (9, vi n), (10, vr g9), (11, vi 1), (12, vi (-2000000100)), (13, vi (D 3)), (14, vi p), (15, vi x), (16, vi y), (17, vi 1), (18, vi (pN D p)), (19, vi pl), (20, vr shq)]) (st2 := [vi pl, vi p, vr f]) kL_law_838 rfl ?_
    refine q_Vi (av := [vi p, vi pl]) (st := []) (c_X9_takeOut hI.1.2.1 hI.1.2.2.1.1 hI.1.2.2.1.2.1 (p := p) (by omega) (by omega) (k := pl) (by omega) (by omega)) lk_RL_282 (by omega) rfl rfl hI.1.2.1.ob ⟨_, rfl, rfl⟩ (Nat.le_of_ble_eq_true rfl) eL_law_844 (fun z5 e6 => ?_)
    have z5r := gm_rT_0r e6
    have z5n : z5 ≠ 0 ∨ 3 < pN D p := by rcases e6 with ⟨a, b⟩ | ⟨a, ⟨b, c⟩ | ⟨b, c⟩⟩ <;> omega
    refine q_blk (lv2 := [(0, vr b0), (1, vi 1), (2, vi i9), (3, vr o), (4, vr bu), (5, vr r), (6, vr f), (7, vr bf), (8, vi dn), (9, vi n), (10, vr g9), (11, vi 1), (12, vi (-2000000100)), (13, vi (D 3)), (14, vi p), (15, vi x), (16, vi y), (17, vi 1), (18, vi (pN D p)), (19, vi pl), (20, vr shq), (22, vi z5)]) (st2 := [vi z5]) kL_law_847 rfl ?_
    refine AQ.if_ne (tgt := 869) eL_law_851 (by decide) (by first | assumption | exact ⟨by omega, by omega⟩ | exact ⟨by decide, by decide⟩) (fun br7 => ?_) (fun br7 => ?_)
    · skip
      refine q_blk (lv2 := [(0, vr b0), (1, vi 1), (2, vi i9), (3, vr o), (4, vr bu), (5, vr r), (6, vr f), (7, vr bf), (8, vi dn), (9, vi n), (10, vr g9), (11, vi 1), (12, vi (-2000000100)), (13, vi (D 3)), (14, vi p), (15, vi x), (16, vi y), (17, vi 1), (18, vi (pN D p)), (19, vi pl), (20, vr shq), (22, vi z5)]) (st2 := [vi z5]) kL_law_869 rfl ?_
      refine AQ.of (AS.if_le_f eL_law_871 (by first | assumption | exact ⟨by omega, by omega⟩ | exact ⟨by decide, by decide⟩) (by omega) (by decide)) ?_
      refine q_blk (lv2 := [(0, vr b0), (1, vi 1), (2, vi i9), (3, vr o), (4, vr bu), (5, vr r), (6, vr f), (7, vr bf), (8, vi dn), (9, vi n), (10, vr g9), (11, vi 1), (12, vi (-2000000100)), (13, vi (D 3)), (14, vi p), (15, vi x), (16, vi y), (17, vi 1), (18, vi (pN D p)), (19, vi pl), (20, vr shq), (22, vi z5)]) (st2 := [vi (-z5)]) kL_law_874 rfl ?_
      refine q_goto (tgt := 888) eL_law_877 (by decide) ?_
      refine q_blk (lv2 := [(0, vr b0), (1, vi 1), (2, vi i9), (3, vr o), (4, vr bu), (5, vr r), (6, vr f), (7, vr bf), (8, vi dn), (9, vi n), (10, vr g9), (11, vi 1), (12, vi (-z5)), (13, vi (D 3)), (14, vi p), (15, vi x), (16, vi y), (17, vi 1), (18, vi (pN D p)), (19, vi pl), (20, vr shq), (22, vi z5)]) (st2 := []) kL_law_888 rfl ?_
      refine q_blk (lv2 := [(0, vr b0), (1, vi 1), (2, vi i9), (3, vr o), (4, vr bu), (5, vr r), (6, vr f), (7, vr bf), (8, vi dn), (9, vi n), (10, vr g9), (11, vi 1), (12, vi (-z5)), (13, vi (D 3)), (14, vi p), (15, vi x), (16, vi y), (17, vi 1), (18, vi (pN D p)), (19, vi pl), (20, vr shq), (22, vi z5)]) (st2 := [vi pl, vi p, vr o]) kL_law_890 rfl ?_
      refine AQ.callWi (av := [vr o, vi p, vi pl]) (st := []) (c_L_takeOut (c_X8_takeOut (MID.inc hI).1.1 ⟨by omega, by omega⟩ ⟨by omega, by omega⟩) (MID.inc hI).1.1.ob (fun k h1 q => by rcases q.1 with ⟨_, e⟩ | ⟨_, (⟨_, e⟩ | ⟨_, e⟩)⟩ <;> first | (cases e; first | exact Or.inl rfl | exact Or.inr rfl) | exact e.elim)) lkw_L_takeOut (by omega) rfl rfl (Nat.le_of_ble_eq_true rfl) eL_law_895 (fun z8 h10 e9 => ?_)
      obtain ⟨-, D9, cm9, z8g, z8c, z8k⟩ := gx_ok (fun k q => by rcases q with ⟨a, e⟩ | ⟨_, (⟨a, e⟩ | ⟨a, e⟩)⟩ <;> first | omega | exact e.elim) e9
      obtain ⟨q9, q9r, q9c⟩ := z8g
      obtain rfl := (gm_rT_u q9r e6).symm
      obtain ⟨-, z8e, z8D⟩ := q9c.resolve_right (fun z => by have := z.1; omega)
      obtain rfl := z8D.symm
      obtain rfl : z8 = (-z5) := z8e
      have z8R := (MID.inc hI).go z8c z8k
      obtain ⟨⟨z81, z82, z83, z84⟩, -⟩ := z8k
      refine q_blk (lv2 := [(0, vr b0), (1, vi 1), (2, vi i9), (3, vr o), (4, vr bu), (5, vr r), (6, vr f), (7, vr bf), (8, vi dn), (9, vi n), (10, vr g9), (11, vi 1), (12, vi (-z5)), (13, vi (D 3)), (14, vi p), (15, vi x), (16, vi y), (17, vi 1), (18, vi (pN D p)), (19, vi pl), (20, vr shq), (22, vi z5)]) (st2 := [vi (-z5), vi (-z5)]) kL_law_898 rfl ?_
      refine AQ.of (AS.ic_ne_f eL_law_900 (by first | assumption | exact ⟨by omega, by omega⟩ | exact ⟨by decide, by decide⟩) (by first | assumption | exact ⟨by omega, by omega⟩ | exact ⟨by decide, by decide⟩) rfl (by decide)) ?_
      refine q_blk (lv2 := [(0, vr b0), (1, vi 1), (2, vi i9), (3, vr o), (4, vr bu), (5, vr r), (6, vr f), (7, vr bf), (8, vi dn), (9, vi n), (10, vr g9), (11, vi 1), (12, vi (-z5)), (13, vi (D 3)), (14, vi p), (15, vi x), (16, vi y), (17, vi 1), (18, vi (pN D p)), (19, vi pl), (20, vr shq), (22, vi z5)]) (st2 := [vi 1]) kL_law_903 rfl ?_
      refine q_goto (tgt := 908) eL_law_904 (by decide) ?_
      refine q_blk (lv2 := [(0, vr b0), (1, vi 1), (2, vi i9), (3, vr o), (4, vr bu), (5, vr r), (6, vr f), (7, vr bf), (8, vi dn), (9, vi n), (10, vr g9), (11, vi 1), (12, vi (-z5)), (13, vi (D 3)), (14, vi p), (15, vi x), (16, vi y), (17, vi 1), (18, vi (pN D p)), (19, vi pl), (20, vr shq), (22, vi z5)]) (st2 := []) kL_law_908 rfl ?_
      refine q_goto (tgt := 1123) eL_law_909 (by decide) ?_
      refine q_sub (lv2 := [(0, vr b0), (1, vi 1), (2, vi i9), (3, vr o), (4, vr bu), (5, vr r), (6, vr f), (7, vr bf), (8, vi dn), (9, vi n), (10, vr g9), (11, vi 1)]) [0, 1, 2, 3, 4, 5, 6, 7, 8, 9, 10, 11] rfl ?_
      exact kk 1 h10 z8R ⟨by omega, by omega⟩
    · skip
      refine q_blk (lv2 := [(0, vr b0), (1, vi 1), (2, vi i9), (3, vr o), (4, vr bu), (5, vr r), (6, vr f), (7, vr bf), (8, vi dn), (9, vi n), (10, vr g9), (11, vi 1), (12, vi (-2000000100)), (13, vi (D 3)), (14, vi p), (15, vi x), (16, vi y), (17, vi 1), (18, vi (pN D p)), (19, vi pl), (20, vr shq), (22, vi z5)]) (st2 := [vr shq, vr shq]) kL_law_854 rfl ?_
      obtain ⟨⟨bf11, bs11, bp11⟩, C011, ⟨fz111, C111⟩, ⟨fz211, C211⟩, hst, hsh, hij⟩ := id hI.1.2.1
      obtain ⟨q12, g12, l12⟩ := hsh p (by omega) (by omega)
      rw [hsq] at g12; obtain rfl := Option.some.inj g12
      obtain ⟨ca12, cf12, ⟨w12, u12⟩, c12, d12, e12⟩ := id l12
      have hsl12 := w12.1.2
      have hcl12 := u12.1.2
      refine q_gr eL_law_858 fl_RL_178 (Or.inr ⟨_, rfl⟩) c12 rfl ?_
      refine q_blk (lv2 := [(0, vr b0), (1, vi 1), (2, vi i9), (3, vr o), (4, vr bu), (5, vr r), (6, vr f), (7, vr bf), (8, vi dn), (9, vi n), (10, vr g9), (11, vi 1), (12, vi (-2000000100)), (13, vi (D 3)), (14, vi p), (15, vi x), (16, vi y), (17, vi 1), (18, vi (pN D p)), (19, vi pl), (20, vr shq), (22, vi z5)]) (st2 := [vi pl, vr ca12, vr shq]) kL_law_861 rfl ?_
      refine AQ.callSr (av := [vr ca12, vi pl]) (st := [vr shq]) (c_L_drop (v := 0) d12 hcl12 ⟨by omega, by omega⟩ ⟨by omega, by omega⟩ ) lk_RL_283 (by omega) rfl rfl (Nat.le_of_ble_eq_true rfl) eL_law_863 (fun z13 h15 e14 => ?_)
      obtain ⟨⟨g16a, g16b⟩, ⟨g16n, g16c, g16e⟩, g16k⟩ := e14
      obtain ⟨-, ⟨g16u, g16v⟩, g16y, g16z⟩ := id g16k
      have g16l := hsl12
      have g16q := (g16k.1 shq g16l id).trans c12
      refine q_pr eL_law_866 fl_RL_178 (fun q hq => by cases hq; exact Or.inl rfl) (Or.inr ⟨_, rfl⟩) g16q (Nat.le_of_ble_eq_true rfl) (l2 := [none, none, some z13]) rfl (fun h17 e18 => ?_)
      have e18u : h17.2.1 = h15.2.1 := congrArg Prod.fst (am_z e18)
      have e18v : h17.2.2 = h15.2.2 := congrArg Prod.snd (am_z e18)
      have e18F : ∀ q, q < h.2.1 → q ≠ shq → h17.1 q = h.1 q := (fun q q0 q1 => (am_ne e18 q q1).trans (g16k.1 q q0 id))
      have e18K : KF h h17 (fun q => q = shq) 1 12 := ⟨fun q q0 q1 => e18F q q0 q1, ⟨by omega, by omega⟩, by omega, by omega⟩
      have e18S := FLD.setP hI.1.2.1 hD (fun q b => b.1.2) (p := p) (n := (pN D p - 1)) (c := pC D p) (xs := (gm_ou pl (pX D p))) (ys := (gm_ou pl (pY D p))) (by omega) (by omega) hsq e18F (by omega) (am_at e18) ((am_ne e18 z13 (by omega)).trans g16c) (Or.inr ⟨by omega, by omega⟩) (fun j j0 j1 => (g16e j j0 j1).trans (gm_ou_xy e12 j0 j1 (by omega)))
      have e183 : (gm_toD D p pl) 3 = D 3 := gm_setP_o (by omega)
      have e18M := hI.op (E := (gm_toD D p pl)) e18K (fun q z => Or.inr ⟨p, by omega, by omega, by rw [show q = shq from z]; exact hsq⟩) e18S (hI.1.2.2.1.toD (by omega) (by omega) (by omega) (by omega) (by have q := e6; rw [show z5 = 0 by omega] at q; exact q)) (fun q m => Or.inl (by rw [e183] at m; exact m))
      refine q_blk (lv2 := [(0, vr b0), (1, vi 1), (2, vi i9), (3, vr o), (4, vr bu), (5, vr r), (6, vr f), (7, vr bf), (8, vi dn), (9, vi n), (10, vr g9), (11, vi 1), (12, vi (-2000000100)), (13, vi (D 3)), (14, vi p), (15, vi x), (16, vi y), (17, vi 1), (18, vi (pN D p)), (19, vi pl), (20, vr shq), (22, vi z5)]) (st2 := [vi z5]) kL_law_869 rfl ?_
      refine AQ.of (AS.if_le_t (tgt := 880) eL_law_871 (by decide) (by first | assumption | exact ⟨by omega, by omega⟩ | exact ⟨by decide, by decide⟩) (by omega)) ?_
      refine q_blk (lv2 := [(0, vr b0), (1, vi 1), (2, vi i9), (3, vr o), (4, vr bu), (5, vr r), (6, vr f), (7, vr bf), (8, vi dn), (9, vi n), (10, vr g9), (11, vi 1), (12, vi (-2000000100)), (13, vi (D 3)), (14, vi p), (15, vi x), (16, vi y), (17, vi 1), (18, vi (pN D p)), (19, vi pl), (20, vr shq), (22, vi z5)]) (st2 := [vr shq]) kL_law_880 rfl ?_
      obtain ⟨qd, gd, ld⟩ := e18M.2.1.1.2.2.2.2.2.1 p (by omega) (by omega)
      rw [hsq] at gd; obtain rfl := Option.some.inj gd
      obtain ⟨-, ⟨nd1, nd2⟩, -, -⟩ := e18M.2.1.2.1.1.2.2.2.2.2 p (by omega) (by omega)
      have vd := e18M.2.1.2.1.1.vc (p := p) (by omega) (by omega)
      refine q_Vi (av := []) (st := []) (c_X12_doubled ld vd nd1 nd2) lk_RL_276 (by omega) rfl rfl ld.ob ⟨_, rfl, rfl⟩ (Nat.le_of_ble_eq_true rfl) eL_law_882 (fun z19 e20 => ?_)
      have z19r : -10800 ≤ z19 ∧ z19 ≤ 10800 := by rw [e20]; exact gm_ar_r vd (by omega) (by omega)
      refine AQ.of (AS.mabs eL_law_885 (by first | assumption | exact ⟨by omega, by omega⟩ | exact ⟨by decide, by decide⟩) (show Cond.methodLink RL 112 _ ∈ GW from am_gw 551 (by decide +kernel) (by decide +kernel)) (am_gw 372 (by decide +kernel) (by decide +kernel)) (am_gw 53 (by decide +kernel) (by decide +kernel)) (am_gw 373 (by decide +kernel) (by decide +kernel)) (by omega) (Nat.le_of_ble_eq_true rfl)) ?_
      obtain ⟨z21, e22⟩ : ∃ q : Int, q = (if 0 ≤ z19 then z19 else -z19) := ⟨_, rfl⟩
      rw [← e22]
      have z21r : 0 ≤ z21 ∧ z21 ≤ 10800 := by rw [e22]; split <;> omega
      refine q_blk (lv2 := [(0, vr b0), (1, vi 1), (2, vi i9), (3, vr o), (4, vr bu), (5, vr r), (6, vr f), (7, vr bf), (8, vi dn), (9, vi n), (10, vr g9), (11, vi 1), (12, vi z21), (13, vi (D 3)), (14, vi p), (15, vi x), (16, vi y), (17, vi 1), (18, vi (pN D p)), (19, vi pl), (20, vr shq), (22, vi z5)]) (st2 := []) kL_law_888 rfl ?_
      refine q_blk (lv2 := [(0, vr b0), (1, vi 1), (2, vi i9), (3, vr o), (4, vr bu), (5, vr r), (6, vr f), (7, vr bf), (8, vi dn), (9, vi n), (10, vr g9), (11, vi 1), (12, vi z21), (13, vi (D 3)), (14, vi p), (15, vi x), (16, vi y), (17, vi 1), (18, vi (pN D p)), (19, vi pl), (20, vr shq), (22, vi z5)]) (st2 := [vi pl, vi p, vr o]) kL_law_890 rfl ?_
      refine AQ.callWi (av := [vr o, vi p, vi pl]) (st := []) (c_L_takeOut (c_X8_takeOut e18M.1.1 ⟨by omega, by omega⟩ ⟨by omega, by omega⟩) e18M.1.1.ob (fun k h1 q => by rcases q.1 with ⟨_, e⟩ | ⟨_, (⟨_, e⟩ | ⟨_, e⟩)⟩ <;> first | (cases e; first | exact Or.inl rfl | exact Or.inr rfl) | exact e.elim)) lkw_L_takeOut (by omega) rfl rfl (Nat.le_of_ble_eq_true rfl) eL_law_895 (fun z23 h25 e24 => ?_)
      obtain ⟨-, D9, cm9, z23g, z23c, z23k⟩ := gx_ok (fun k q => by rcases q with ⟨a, e⟩ | ⟨_, (⟨a, e⟩ | ⟨a, e⟩)⟩ <;> first | omega | exact e.elim) e24
      obtain ⟨q9, q9r, q9c⟩ := z23g
      obtain rfl := (gm_rT_u q9r e6).symm
      obtain ⟨-, z23e, rfl⟩ := q9c.resolve_left (fun z => z.1 (by omega))
      have z23e := z23e.trans (show gm_arD (gm_toD D p pl) p = z21 from by rw [e22, e20]; rfl)
      obtain rfl := (z23e).symm
      have z23R := e18M.go z23c z23k
      obtain ⟨⟨z231, z232, z233, z234⟩, -⟩ := z23k
      refine q_blk (lv2 := [(0, vr b0), (1, vi 1), (2, vi i9), (3, vr o), (4, vr bu), (5, vr r), (6, vr f), (7, vr bf), (8, vi dn), (9, vi n), (10, vr g9), (11, vi 1), (12, vi z21), (13, vi (D 3)), (14, vi p), (15, vi x), (16, vi y), (17, vi 1), (18, vi (pN D p)), (19, vi pl), (20, vr shq), (22, vi z5)]) (st2 := [vi z21, vi z21]) kL_law_898 rfl ?_
      refine AQ.of (AS.ic_ne_f eL_law_900 (by first | assumption | exact ⟨by omega, by omega⟩ | exact ⟨by decide, by decide⟩) (by first | assumption | exact ⟨by omega, by omega⟩ | exact ⟨by decide, by decide⟩) rfl (by decide)) ?_
      refine q_blk (lv2 := [(0, vr b0), (1, vi 1), (2, vi i9), (3, vr o), (4, vr bu), (5, vr r), (6, vr f), (7, vr bf), (8, vi dn), (9, vi n), (10, vr g9), (11, vi 1), (12, vi z21), (13, vi (D 3)), (14, vi p), (15, vi x), (16, vi y), (17, vi 1), (18, vi (pN D p)), (19, vi pl), (20, vr shq), (22, vi z5)]) (st2 := [vi 1]) kL_law_903 rfl ?_
      refine q_goto (tgt := 908) eL_law_904 (by decide) ?_
      refine q_blk (lv2 := [(0, vr b0), (1, vi 1), (2, vi i9), (3, vr o), (4, vr bu), (5, vr r), (6, vr f), (7, vr bf), (8, vi dn), (9, vi n), (10, vr g9), (11, vi 1), (12, vi z21), (13, vi (D 3)), (14, vi p), (15, vi x), (16, vi y), (17, vi 1), (18, vi (pN D p)), (19, vi pl), (20, vr shq), (22, vi z5)]) (st2 := []) kL_law_908 rfl ?_
      refine q_goto (tgt := 1123) eL_law_909 (by decide) ?_
      refine q_sub (lv2 := [(0, vr b0), (1, vi 1), (2, vi i9), (3, vr o), (4, vr bu), (5, vr r), (6, vr f), (7, vr bf), (8, vi dn), (9, vi n), (10, vr g9), (11, vi 1)]) [0, 1, 2, 3, 4, 5, 6, 7, 8, 9, 10, 11] rfl ?_
      exact kk 1 h25 z23R ⟨by omega, by omega⟩

set_option maxRecDepth 4000 in
set_option maxHeartbeats 8000000 in
theorem sg_out0 {nm : String} {TT : List (Nat × Nat × Nat × Nat)} {w : am_w} {d b0 : Nat} {i9 dn n : Int} {Q : RV → AH → Prop} {h : AH} {o bu r bf f sa pa : Nat} {gs gp : Int → Option Nat} {T : Option Nat} {L : GL} {D cm : Int → Int} {sc : Nat} {tx : Int → Int} {bl le : Int} {Hs H1 : List GE} {g9 : Nat} {pl p x y : Int} (hd : 90 ≤ d) (hI : INC w o bu r bf f sa pa gs gp T L h D cm sc tx bl le Hs H1 g9) (hp : p = D 3) (hpl : 0 ≤ pl ∧ pl ≤ 30) (hxx : 0 ≤ x ∧ x ≤ D 0) (hyy : 0 ≤ y ∧ y ≤ D 1) (kk : ∀ (ch : Int) (h1 : AH), RES w o bu r bf f sa gs T L h1 D cm sc tx bl le Hs H1 g9 ch → (h1.2.1 ≤ h.2.1 + 16 ∧ h1.2.2 ≤ h.2.2 + 40) → AQ w (mL nm TT) d 1123 [(0, vr b0), (1, vi 1), (2, vi i9), (3, vr o), (4, vr bu), (5, vr r), (6, vr f), (7, vr bf), (8, vi dn), (9, vi n), (10, vr g9), (11, vi ch)] [] h1 Q)  : AQ w (mL nm TT) d 805 [(0, vr b0), (1, vi 1), (2, vi i9), (3, vr o), (4, vr bu), (5, vr r), (6, vr f), (7, vr bf), (8, vi dn), (9, vi n), (10, vr g9), (11, vi 1), (12, vi (-2000000097)), (13, vi (D 3)), (14, vi p), (15, vi x), (16, vi y), (17, vi 0), (18, vi 0), (19, vi pl)] [] h Q := by
  have hD := hI.1.2.2.1.1
  have d0 := hD.1
  have d1 := hD.2.1
  have d2 := hD.2.2.1
  have d3 := hD.2.2.2.1
  refine q_blk (lv2 := [(0, vr b0), (1, vi 1), (2, vi i9), (3, vr o), (4, vr bu), (5, vr r), (6, vr f), (7, vr bf), (8, vi dn), (9, vi n), (10, vr g9), (11, vi 1), (12, vi (-2000000097)), (13, vi (D 3)), (14, vi p), (15, vi x), (16, vi y), (17, vi 0), (18, vi 0), (19, vi pl)]) (st2 := [vi 0]) kL_law_805 rfl ?_
  refine AQ.of (AS.if_eq_t (tgt := 821) eL_law_807 (by decide) ⟨by decide, by decide⟩ (by decide)) ?_
  refine q_blk (lv2 := [(0, vr b0), (1, vi 1), (2, vi i9), (3, vr o), (4, vr bu), (5, vr r), (6, vr f), (7, vr bf), (8, vi dn), (9, vi n), (10, vr g9), (11, vi 1), (12, vi (-2000000097)), (13, vi (D 3)), (14, vi p), (15, vi x), (16, vi y), (17, vi 0), (18, vi 0), (19, vi pl)]) (st2 := [vi 0]) kL_law_821 rfl ?_
  refine q_blk (lv2 := [(0, vr b0), (1, vi 1), (2, vi i9), (3, vr o), (4, vr bu), (5, vr r), (6, vr f), (7, vr bf), (8, vi dn), (9, vi n), (10, vr g9), (11, vi 0), (12, vi (-2000000097)), (13, vi (D 3)), (14, vi p), (15, vi x), (16, vi y), (17, vi 0), (18, vi 0), (19, vi pl)]) (st2 := [vi 0]) kL_law_822 rfl ?_
  refine AQ.of (AS.if_eq_t (tgt := 833) eL_law_826 (by decide) ⟨by decide, by decide⟩ (by decide)) ?_
  refine q_blk (lv2 := [(0, vr b0), (1, vi 1), (2, vi i9), (3, vr o), (4, vr bu), (5, vr r), (6, vr f), (7, vr bf), (8, vi dn), (9, vi n), (10, vr g9), (11, vi 0), (12, vi (-2000000097)), (13, vi (D 3)), (14, vi p), (15, vi x), (16, vi y), (17, vi 0), (18, vi 0), (19, vi pl)]) (st2 := [vi 0]) kL_law_833 rfl ?_
  refine AQ.of (AS.if_eq_t (tgt := 890) eL_law_835 (by decide) ⟨by decide, by decide⟩ (by decide)) ?_
  refine q_blk (lv2 := [(0, vr b0), (1, vi 1), (2, vi i9), (3, vr o), (4, vr bu), (5, vr r), (6, vr f), (7, vr bf), (8, vi dn), (9, vi n), (10, vr g9), (11, vi 0), (12, vi (-2000000097)), (13, vi (D 3)), (14, vi p), (15, vi x), (16, vi y), (17, vi 0), (18, vi 0), (19, vi pl)]) (st2 := [vi pl, vi p, vr o]) kL_law_890 rfl ?_
  refine AQ.callWi (av := [vr o, vi p, vi pl]) (st := []) (c_L_takeOut (c_X8_takeOut (MID.inc hI).1.1 ⟨by omega, by omega⟩ ⟨by omega, by omega⟩) (MID.inc hI).1.1.ob (fun k h1 q => by rcases q.1 with ⟨_, e⟩ | ⟨_, (⟨_, e⟩ | ⟨_, e⟩)⟩ <;> first | (cases e; first | exact Or.inl rfl | exact Or.inr rfl) | exact e.elim)) lkw_L_takeOut (by omega) rfl rfl (Nat.le_of_ble_eq_true rfl) eL_law_895 (fun z1 h3 e2 => ?_)
  obtain ⟨z1e, z1h⟩ := gx_th (k0 := 2) (fun q => by have := q.1; omega) (fun k q => by rcases q with ⟨a, e⟩ | ⟨_, (⟨a, e⟩ | ⟨a, e⟩)⟩ <;> first | (cases e; first | rfl | omega) | exact e.elim) e2
  subst z1h
  obtain rfl : z1 = (-2000000097) := z1e
  have z1t : (gm_thr h).2.1 = h.2.1 + 1 := rfl
  have z1s : (gm_thr h).2.2 = h.2.2 + 6 := rfl
  refine q_blk (lv2 := [(0, vr b0), (1, vi 1), (2, vi i9), (3, vr o), (4, vr bu), (5, vr r), (6, vr f), (7, vr bf), (8, vi dn), (9, vi n), (10, vr g9), (11, vi 0), (12, vi (-2000000097)), (13, vi (D 3)), (14, vi p), (15, vi x), (16, vi y), (17, vi 0), (18, vi 0), (19, vi pl)]) (st2 := [vi (-2000000097), vi (-2000000097)]) kL_law_898 rfl ?_
  refine AQ.of (AS.ic_ne_f eL_law_900 ⟨by decide, by decide⟩ ⟨by decide, by decide⟩ rfl (by decide)) ?_
  refine q_blk (lv2 := [(0, vr b0), (1, vi 1), (2, vi i9), (3, vr o), (4, vr bu), (5, vr r), (6, vr f), (7, vr bf), (8, vi dn), (9, vi n), (10, vr g9), (11, vi 0), (12, vi (-2000000097)), (13, vi (D 3)), (14, vi p), (15, vi x), (16, vi y), (17, vi 0), (18, vi 0), (19, vi pl)]) (st2 := [vi 1]) kL_law_903 rfl ?_
  refine q_goto (tgt := 908) eL_law_904 (by decide) ?_
  refine q_blk (lv2 := [(0, vr b0), (1, vi 1), (2, vi i9), (3, vr o), (4, vr bu), (5, vr r), (6, vr f), (7, vr bf), (8, vi dn), (9, vi n), (10, vr g9), (11, vi 0), (12, vi (-2000000097)), (13, vi (D 3)), (14, vi p), (15, vi x), (16, vi y), (17, vi 0), (18, vi 0), (19, vi pl)]) (st2 := []) kL_law_908 rfl ?_
  refine q_goto (tgt := 1123) eL_law_909 (by decide) ?_
  refine q_sub (lv2 := [(0, vr b0), (1, vi 1), (2, vi i9), (3, vr o), (4, vr bu), (5, vr r), (6, vr f), (7, vr bf), (8, vi dn), (9, vi n), (10, vr g9), (11, vi 0)]) [0, 1, 2, 3, 4, 5, 6, 7, 8, 9, 10, 11] rfl ?_
  exact kk 0 (gm_thr h) (RES.no hI) ⟨by omega, by omega⟩

set_option maxRecDepth 4000 in
set_option maxHeartbeats 8000000 in
theorem sg_rem1 {nm : String} {TT : List (Nat × Nat × Nat × Nat)} {w : am_w} {d b0 : Nat} {i9 dn n : Int} {Q : RV → AH → Prop} {h : AH} {o bu r bf f sa pa : Nat} {gs gp : Int → Option Nat} {T : Option Nat} {L : GL} {D cm : Int → Int} {sc : Nat} {tx : Int → Int} {bl le : Int} {Hs H1 : List GE} {g9 shq : Nat} {pl p x y : Int} (hd : 90 ≤ d) (hsq : gp p = some shq) (hI : INC w o bu r bf f sa pa gs gp T L h D cm sc tx bl le Hs H1 g9) (hp : 0 ≤ p ∧ p < D 3) (hpl : 0 ≤ pl ∧ pl ≤ pN D p) (hxx : 0 ≤ x ∧ x ≤ D 0) (hyy : 0 ≤ y ∧ y ≤ D 1) (kk : ∀ (ch : Int) (h1 : AH), RES w o bu r bf f sa gs T L h1 D cm sc tx bl le Hs H1 g9 ch → (h1.2.1 ≤ h.2.1 + 16 ∧ h1.2.2 ≤ h.2.2 + 40) → AQ w (mL nm TT) d 1123 [(0, vr b0), (1, vi 1), (2, vi i9), (3, vr o), (4, vr bu), (5, vr r), (6, vr f), (7, vr bf), (8, vi dn), (9, vi n), (10, vr g9), (11, vi ch)] [] h1 Q)  : AQ w (mL nm TT) d 912 [(0, vr b0), (1, vi 1), (2, vi i9), (3, vr o), (4, vr bu), (5, vr r), (6, vr f), (7, vr bf), (8, vi dn), (9, vi n), (10, vr g9), (11, vi 1), (12, vi (-2000000097)), (13, vi (D 3)), (14, vi p), (15, vi x), (16, vi y), (17, vi 1), (18, vi (pN D p)), (19, vi pl), (20, vr shq)] [] h Q := by
  have hD := hI.1.2.2.1.1
  have d0 := hD.1
  have d1 := hD.2.1
  have d2 := hD.2.2.1
  have d3 := hD.2.2.2.1
  refine q_blk (lv2 := [(0, vr b0), (1, vi 1), (2, vi i9), (3, vr o), (4, vr bu), (5, vr r), (6, vr f), (7, vr bf), (8, vi dn), (9, vi n), (10, vr g9), (11, vi 1), (12, vi (-2000000097)), (13, vi (D 3)), (14, vi p), (15, vi x), (16, vi y), (17, vi 1), (18, vi (pN D p)), (19, vi pl), (20, vr shq)]) (st2 := [vi 3, vr r]) kL_law_912 rfl ?_
  refine AQ.callVi (av := [vi 3]) (st := []) (c_X11_below hI.1.2.2.2.1.1 hI.1.2.2.2.1.2.1.2.1 (b := 3) (by omega) (by omega)) lk_RL_132 (by omega) rfl rfl hI.1.2.2.2.1.1.ob ⟨_, rfl, rfl⟩ (Nat.le_of_ble_eq_true rfl) eL_law_915 (fun z1 h3 e2 => ?_)
  obtain ⟨⟨z1a, z1b⟩, g4r, g4k⟩ := e2
  have g4i := hI.kr g4k g4r
  obtain ⟨-, ⟨g4a, g4b⟩, g4y, g4z⟩ := id g4k
  refine AQ.if_le (tgt := 925) eL_law_918 (by decide) (by first | assumption | exact ⟨by omega, by omega⟩ | exact ⟨by decide, by decide⟩) (fun br5 => ?_) (fun br5 => ?_)
  · skip
    refine q_blk (lv2 := [(0, vr b0), (1, vi 1), (2, vi i9), (3, vr o), (4, vr bu), (5, vr r), (6, vr f), (7, vr bf), (8, vi dn), (9, vi n), (10, vr g9), (11, vi 1), (12, vi (-2000000097)), (13, vi (D 3)), (14, vi p), (15, vi x), (16, vi y), (17, vi 1), (18, vi (pN D p)), (19, vi pl), (20, vr shq)]) (st2 := [vi (D 3), vi p]) kL_law_925 rfl ?_
    refine AQ.of (AS.ic_ge_f eL_law_929 (by first | assumption | exact ⟨by omega, by omega⟩ | exact ⟨by decide, by decide⟩) (by first | assumption | exact ⟨by omega, by omega⟩ | exact ⟨by decide, by decide⟩) (by omega) (by decide)) ?_
    refine q_blk (lv2 := [(0, vr b0), (1, vi 1), (2, vi i9), (3, vr o), (4, vr bu), (5, vr r), (6, vr f), (7, vr bf), (8, vi dn), (9, vi n), (10, vr g9), (11, vi 1), (12, vi (-2000000097)), (13, vi (D 3)), (14, vi p), (15, vi x), (16, vi y), (17, vi 1), (18, vi (pN D p)), (19, vi pl), (20, vr shq)]) (st2 := [vi 1]) kL_law_932 rfl ?_
    refine q_goto (tgt := 937) eL_law_933 (by decide) ?_
    refine q_blk (lv2 := [(0, vr b0), (1, vi 1), (2, vi i9), (3, vr o), (4, vr bu), (5, vr r), (6, vr f), (7, vr bf), (8, vi dn), (9, vi n), (10, vr g9), (11, vi 1), (12, vi (-2000000097)), (13, vi (D 3)), (14, vi p), (15, vi x), (16, vi y), (17, vi 1), (18, vi (pN D p)), (19, vi pl), (20, vr shq)]) (st2 := [vi 1]) kL_law_937 rfl ?_
    refine AQ.of (AS.if_eq_f eL_law_941 ⟨by decide, by decide⟩ (by decide) (by decide)) ?_
    refine q_blk (lv2 := [(0, vr b0), (1, vi 1), (2, vi i9), (3, vr o), (4, vr bu), (5, vr r), (6, vr f), (7, vr bf), (8, vi dn), (9, vi n), (10, vr g9), (11, vi 1), (12, vi (-2000000097)), (13, vi (D 3)), (14, vi p), (15, vi x), (16, vi y), (17, vi 1), (18, vi (pN D p)), (19, vi pl), (20, vr shq)]) (st2 := [vi p, vr f]) kL_law_944 rfl ?_
    refine AQ.callVv (av := [vi p]) (st := []) (c_X9_remove g4i.1.2.1 g4i.1.2.2.1.1 (p := p) (by omega) (by omega) (fun q b => b.1.2)) lk_RL_187 (by omega) rfl rfl g4i.1.2.1.ob ⟨_, rfl, rfl⟩ (Nat.le_of_ble_eq_true rfl) eL_law_948 (fun h8 e7 => ?_)
    obtain ⟨⟨g9t, g9gk, g9F, g9p⟩, g9k⟩ := e7
    have g9M := g4i.op (E := (gm_drP D p)) g9k (fun q z => Or.inl z) g9F (g4i.1.2.2.1.drP (by omega) (by omega)) (fun q m => Or.inl (m.elim (fun a => Or.inl a) fun ⟨k, k0, k1, a⟩ => by rw [show (gm_drP D p) 3 = D 3 - 1 from if_pos rfl] at k1; rw [g9p k k0 k1] at a; exact Or.inr ⟨_, by split <;> omega, by split <;> omega, a⟩))
    obtain ⟨-, ⟨g9a, g9b⟩, g9c, g9d⟩ := id g9k
    refine q_blk (lv2 := [(0, vr b0), (1, vi 1), (2, vi i9), (3, vr o), (4, vr bu), (5, vr r), (6, vr f), (7, vr bf), (8, vi dn), (9, vi n), (10, vr g9), (11, vi 1), (12, vi (-2000000097)), (13, vi (D 3)), (14, vi p), (15, vi x), (16, vi y), (17, vi 1), (18, vi (pN D p)), (19, vi pl), (20, vr shq)]) (st2 := [vi (-1), vr f]) kL_law_951 rfl ?_
    obtain ⟨cmx, hCx⟩ := CMS.ex (D := (gm_drP D p)) g9M.2.1.2.1.1.2.2.2.1.2
    have uqx := FX.uq g9M.2.1.2.1 hCx
    refine q_Vi (av := [vi (-1)]) (st := []) (c_X9_claimedN g9M.2.1.1 g9M.2.1.2.1.1 uqx (fun k k0 k1 => (hCx k k0 k1).2) ) lk_RL_224 (by omega) rfl rfl g9M.2.1.1.ob ⟨_, rfl, rfl⟩ (Nat.le_of_ble_eq_true rfl) eL_law_954 (fun z10 e11 => ?_)
    have z10r := gx_nf (cm := cmx) g9M.2.1.2.1.1.2.2.1
    rw [← e11] at z10r
    refine q_blk (lv2 := [(0, vr b0), (1, vi 1), (2, vi i9), (3, vr o), (4, vr bu), (5, vr r), (6, vr f), (7, vr bf), (8, vi dn), (9, vi n), (10, vr g9), (11, vi 1), (12, vi z10), (13, vi (D 3)), (14, vi p), (15, vi x), (16, vi y), (17, vi 1), (18, vi (pN D p)), (19, vi pl), (20, vr shq)]) (st2 := []) kL_law_957 rfl ?_
    refine q_blk (lv2 := [(0, vr b0), (1, vi 1), (2, vi i9), (3, vr o), (4, vr bu), (5, vr r), (6, vr f), (7, vr bf), (8, vi dn), (9, vi n), (10, vr g9), (11, vi 1), (12, vi z10), (13, vi (D 3)), (14, vi p), (15, vi x), (16, vi y), (17, vi 1), (18, vi (pN D p)), (19, vi pl), (20, vr shq)]) (st2 := [vi p, vr o]) kL_law_959 rfl ?_
    refine AQ.callWi (av := [vr o, vi p]) (st := []) (c_L_remove (c_X8_remove g9M.1.1 ⟨by omega, by omega⟩) g9M.1.1.ob (fun k h1 q => by rcases q.1 with ⟨_, e⟩ | ⟨_, e⟩ <;> first | (cases e; rfl) | exact e.elim)) lkw_L_remove (by omega) rfl rfl (Nat.le_of_ble_eq_true rfl) eL_law_962 (fun z12 h14 e13 => ?_)
    obtain ⟨-, D9, cm9, z12g, z12c, z12k⟩ := gx_ok (fun k q => by rcases q with ⟨a, e⟩ | ⟨_, e⟩ <;> first | omega | exact e.elim) e13
    obtain ⟨z12e, rfl⟩ := z12g
    have z12e := z12e.trans ((gm_sm_ci (fun k k0 k1 => by unfold gm_nf; rw [CMS.one z12c.2.2.2.2.2.1.2.2.1 hCx k0 k1])).trans e11.symm)
    obtain rfl := (z12e).symm
    have z12R := g9M.go z12c z12k
    obtain ⟨⟨z121, z122, z123, z124⟩, -⟩ := z12k
    refine q_blk (lv2 := [(0, vr b0), (1, vi 1), (2, vi i9), (3, vr o), (4, vr bu), (5, vr r), (6, vr f), (7, vr bf), (8, vi dn), (9, vi n), (10, vr g9), (11, vi 1), (12, vi z10), (13, vi (D 3)), (14, vi p), (15, vi x), (16, vi y), (17, vi 1), (18, vi (pN D p)), (19, vi pl), (20, vr shq)]) (st2 := [vi 1, vi z10]) kL_law_965 rfl ?_
    refine AQ.of (AS.if_eq_f eL_law_967 ⟨by decide, by decide⟩ (by decide) (by decide)) ?_
    refine q_blk (lv2 := [(0, vr b0), (1, vi 1), (2, vi i9), (3, vr o), (4, vr bu), (5, vr r), (6, vr f), (7, vr bf), (8, vi dn), (9, vi n), (10, vr g9), (11, vi 1), (12, vi z10), (13, vi (D 3)), (14, vi p), (15, vi x), (16, vi y), (17, vi 1), (18, vi (pN D p)), (19, vi pl), (20, vr shq)]) (st2 := [vi z10, vi z10]) kL_law_970 rfl ?_
    refine q_goto (tgt := 977) eL_law_972 (by decide) ?_
    refine AQ.of (AS.ic_ne_f eL_law_977 (by first | assumption | exact ⟨by omega, by omega⟩ | exact ⟨by decide, by decide⟩) (by first | assumption | exact ⟨by omega, by omega⟩ | exact ⟨by decide, by decide⟩) rfl (by decide)) ?_
    refine q_blk (lv2 := [(0, vr b0), (1, vi 1), (2, vi i9), (3, vr o), (4, vr bu), (5, vr r), (6, vr f), (7, vr bf), (8, vi dn), (9, vi n), (10, vr g9), (11, vi 1), (12, vi z10), (13, vi (D 3)), (14, vi p), (15, vi x), (16, vi y), (17, vi 1), (18, vi (pN D p)), (19, vi pl), (20, vr shq)]) (st2 := [vi 1]) kL_law_980 rfl ?_
    refine q_goto (tgt := 985) eL_law_981 (by decide) ?_
    refine q_blk (lv2 := [(0, vr b0), (1, vi 1), (2, vi i9), (3, vr o), (4, vr bu), (5, vr r), (6, vr f), (7, vr bf), (8, vi dn), (9, vi n), (10, vr g9), (11, vi 1), (12, vi z10), (13, vi (D 3)), (14, vi p), (15, vi x), (16, vi y), (17, vi 1), (18, vi (pN D p)), (19, vi pl), (20, vr shq)]) (st2 := []) kL_law_985 rfl ?_
    refine q_goto (tgt := 1123) eL_law_986 (by decide) ?_
    refine q_sub (lv2 := [(0, vr b0), (1, vi 1), (2, vi i9), (3, vr o), (4, vr bu), (5, vr r), (6, vr f), (7, vr bf), (8, vi dn), (9, vi n), (10, vr g9), (11, vi 1)]) [0, 1, 2, 3, 4, 5, 6, 7, 8, 9, 10, 11] rfl ?_
    exact kk 1 h14 z12R ⟨by omega, by omega⟩
  · skip
    refine q_blk (lv2 := [(0, vr b0), (1, vi 1), (2, vi i9), (3, vr o), (4, vr bu), (5, vr r), (6, vr f), (7, vr bf), (8, vi dn), (9, vi n), (10, vr g9), (11, vi 1), (12, vi (-2000000097)), (13, vi (D 3)), (14, vi (D 3)), (15, vi x), (16, vi y), (17, vi 1), (18, vi (pN D p)), (19, vi pl), (20, vr shq)]) (st2 := []) kL_law_921 rfl ?_
    refine q_blk (lv2 := [(0, vr b0), (1, vi 1), (2, vi i9), (3, vr o), (4, vr bu), (5, vr r), (6, vr f), (7, vr bf), (8, vi dn), (9, vi n), (10, vr g9), (11, vi 1), (12, vi (-2000000097)), (13, vi (D 3)), (14, vi (D 3)), (15, vi x), (16, vi y), (17, vi 1), (18, vi (pN D p)), (19, vi pl), (20, vr shq)]) (st2 := [vi (D 3), vi (D 3)]) kL_law_925 rfl ?_
    refine AQ.of (AS.ic_ge_t (tgt := 936) eL_law_929 (by decide) (by first | assumption | exact ⟨by omega, by omega⟩ | exact ⟨by decide, by decide⟩) (by first | assumption | exact ⟨by omega, by omega⟩ | exact ⟨by decide, by decide⟩) (by omega)) ?_
    refine q_blk (lv2 := [(0, vr b0), (1, vi 1), (2, vi i9), (3, vr o), (4, vr bu), (5, vr r), (6, vr f), (7, vr bf), (8, vi dn), (9, vi n), (10, vr g9), (11, vi 1), (12, vi (-2000000097)), (13, vi (D 3)), (14, vi (D 3)), (15, vi x), (16, vi y), (17, vi 1), (18, vi (pN D p)), (19, vi pl), (20, vr shq)]) (st2 := [vi 0]) kL_law_936 rfl ?_
    refine q_blk (lv2 := [(0, vr b0), (1, vi 1), (2, vi i9), (3, vr o), (4, vr bu), (5, vr r), (6, vr f), (7, vr bf), (8, vi dn), (9, vi n), (10, vr g9), (11, vi 0), (12, vi (-2000000097)), (13, vi (D 3)), (14, vi (D 3)), (15, vi x), (16, vi y), (17, vi 1), (18, vi (pN D p)), (19, vi pl), (20, vr shq)]) (st2 := [vi 0]) kL_law_937 rfl ?_
    refine AQ.of (AS.if_eq_t (tgt := 959) eL_law_941 (by decide) ⟨by decide, by decide⟩ (by decide)) ?_
    refine q_blk (lv2 := [(0, vr b0), (1, vi 1), (2, vi i9), (3, vr o), (4, vr bu), (5, vr r), (6, vr f), (7, vr bf), (8, vi dn), (9, vi n), (10, vr g9), (11, vi 0), (12, vi (-2000000097)), (13, vi (D 3)), (14, vi (D 3)), (15, vi x), (16, vi y), (17, vi 1), (18, vi (pN D p)), (19, vi pl), (20, vr shq)]) (st2 := [vi (D 3), vr o]) kL_law_959 rfl ?_
    refine AQ.callWi (av := [vr o, vi (D 3)]) (st := []) (c_L_remove (c_X8_remove (MID.inc g4i).1.1 ⟨by omega, by omega⟩) (MID.inc g4i).1.1.ob (fun k h1 q => by rcases q.1 with ⟨_, e⟩ | ⟨_, e⟩ <;> first | (cases e; rfl) | exact e.elim)) lkw_L_remove (by omega) rfl rfl (Nat.le_of_ble_eq_true rfl) eL_law_962 (fun z15 h17 e16 => ?_)
    obtain ⟨z15e, z15h⟩ := gx_th (k0 := 2) (fun q => by have := q.1; omega) (fun k q => by rcases q with ⟨a, e⟩ | ⟨_, e⟩ <;> first | (cases e; first | rfl | omega) | exact e.elim) e16
    subst z15h
    obtain rfl : z15 = (-2000000097) := z15e
    have z15t : (gm_thr h3).2.1 = h3.2.1 + 1 := rfl
    have z15s : (gm_thr h3).2.2 = h3.2.2 + 6 := rfl
    refine q_blk (lv2 := [(0, vr b0), (1, vi 1), (2, vi i9), (3, vr o), (4, vr bu), (5, vr r), (6, vr f), (7, vr bf), (8, vi dn), (9, vi n), (10, vr g9), (11, vi 0), (12, vi (-2000000097)), (13, vi (D 3)), (14, vi (D 3)), (15, vi x), (16, vi y), (17, vi 1), (18, vi (pN D p)), (19, vi pl), (20, vr shq)]) (st2 := [vi 0, vi (-2000000097)]) kL_law_965 rfl ?_
    refine AQ.of (AS.if_eq_t (tgt := 975) eL_law_967 (by decide) ⟨by decide, by decide⟩ (by decide)) ?_
    refine AQ.of (AS.ldc (z := (-2000000097)) eL_law_975 (show Cond.constant RL 58 (Int32.ofInt (-2000000097)) ∈ GW from am_gw 1087 (by decide +kernel) (by decide +kernel))) ?_
    refine AQ.of (AS.ic_ne_f eL_law_977 ⟨by decide, by decide⟩ ⟨by decide, by decide⟩ rfl (by decide)) ?_
    refine q_blk (lv2 := [(0, vr b0), (1, vi 1), (2, vi i9), (3, vr o), (4, vr bu), (5, vr r), (6, vr f), (7, vr bf), (8, vi dn), (9, vi n), (10, vr g9), (11, vi 0), (12, vi (-2000000097)), (13, vi (D 3)), (14, vi (D 3)), (15, vi x), (16, vi y), (17, vi 1), (18, vi (pN D p)), (19, vi pl), (20, vr shq)]) (st2 := [vi 1]) kL_law_980 rfl ?_
    refine q_goto (tgt := 985) eL_law_981 (by decide) ?_
    refine q_blk (lv2 := [(0, vr b0), (1, vi 1), (2, vi i9), (3, vr o), (4, vr bu), (5, vr r), (6, vr f), (7, vr bf), (8, vi dn), (9, vi n), (10, vr g9), (11, vi 0), (12, vi (-2000000097)), (13, vi (D 3)), (14, vi (D 3)), (15, vi x), (16, vi y), (17, vi 1), (18, vi (pN D p)), (19, vi pl), (20, vr shq)]) (st2 := []) kL_law_985 rfl ?_
    refine q_goto (tgt := 1123) eL_law_986 (by decide) ?_
    refine q_sub (lv2 := [(0, vr b0), (1, vi 1), (2, vi i9), (3, vr o), (4, vr bu), (5, vr r), (6, vr f), (7, vr bf), (8, vi dn), (9, vi n), (10, vr g9), (11, vi 0)]) [0, 1, 2, 3, 4, 5, 6, 7, 8, 9, 10, 11] rfl ?_
    exact kk 0 (gm_thr h3) (RES.no g4i) ⟨by omega, by omega⟩

set_option maxRecDepth 4000 in
set_option maxHeartbeats 8000000 in
theorem sg_rem0 {nm : String} {TT : List (Nat × Nat × Nat × Nat)} {w : am_w} {d b0 : Nat} {i9 dn n : Int} {Q : RV → AH → Prop} {h : AH} {o bu r bf f sa pa : Nat} {gs gp : Int → Option Nat} {T : Option Nat} {L : GL} {D cm : Int → Int} {sc : Nat} {tx : Int → Int} {bl le : Int} {Hs H1 : List GE} {g9 : Nat} {pl p x y : Int} (hd : 90 ≤ d) (hI : INC w o bu r bf f sa pa gs gp T L h D cm sc tx bl le Hs H1 g9) (hp : p = D 3) (hpl : 0 ≤ pl ∧ pl ≤ 30) (hxx : 0 ≤ x ∧ x ≤ D 0) (hyy : 0 ≤ y ∧ y ≤ D 1) (kk : ∀ (ch : Int) (h1 : AH), RES w o bu r bf f sa gs T L h1 D cm sc tx bl le Hs H1 g9 ch → (h1.2.1 ≤ h.2.1 + 16 ∧ h1.2.2 ≤ h.2.2 + 40) → AQ w (mL nm TT) d 1123 [(0, vr b0), (1, vi 1), (2, vi i9), (3, vr o), (4, vr bu), (5, vr r), (6, vr f), (7, vr bf), (8, vi dn), (9, vi n), (10, vr g9), (11, vi ch)] [] h1 Q)  : AQ w (mL nm TT) d 912 [(0, vr b0), (1, vi 1), (2, vi i9), (3, vr o), (4, vr bu), (5, vr r), (6, vr f), (7, vr bf), (8, vi dn), (9, vi n), (10, vr g9), (11, vi 1), (12, vi (-2000000097)), (13, vi (D 3)), (14, vi p), (15, vi x), (16, vi y), (17, vi 0), (18, vi 0), (19, vi pl)] [] h Q := by
  have hD := hI.1.2.2.1.1
  have d0 := hD.1
  have d1 := hD.2.1
  have d2 := hD.2.2.1
  have d3 := hD.2.2.2.1
  refine q_blk (lv2 := [(0, vr b0), (1, vi 1), (2, vi i9), (3, vr o), (4, vr bu), (5, vr r), (6, vr f), (7, vr bf), (8, vi dn), (9, vi n), (10, vr g9), (11, vi 1), (12, vi (-2000000097)), (13, vi (D 3)), (14, vi p), (15, vi x), (16, vi y), (17, vi 0), (18, vi 0), (19, vi pl)]) (st2 := [vi 3, vr r]) kL_law_912 rfl ?_
  refine AQ.callVi (av := [vi 3]) (st := []) (c_X11_below hI.1.2.2.2.1.1 hI.1.2.2.2.1.2.1.2.1 (b := 3) (by omega) (by omega)) lk_RL_132 (by omega) rfl rfl hI.1.2.2.2.1.1.ob ⟨_, rfl, rfl⟩ (Nat.le_of_ble_eq_true rfl) eL_law_915 (fun z1 h3 e2 => ?_)
  obtain ⟨⟨z1a, z1b⟩, g4r, g4k⟩ := e2
  have g4i := hI.kr g4k g4r
  obtain ⟨-, ⟨g4a, g4b⟩, g4y, g4z⟩ := id g4k
  refine AQ.if_le (tgt := 925) eL_law_918 (by decide) (by first | assumption | exact ⟨by omega, by omega⟩ | exact ⟨by decide, by decide⟩) (fun br5 => ?_) (fun br5 => ?_)
  · skip
    refine q_blk (lv2 := [(0, vr b0), (1, vi 1), (2, vi i9), (3, vr o), (4, vr bu), (5, vr r), (6, vr f), (7, vr bf), (8, vi dn), (9, vi n), (10, vr g9), (11, vi 1), (12, vi (-2000000097)), (13, vi (D 3)), (14, vi p), (15, vi x), (16, vi y), (17, vi 0), (18, vi 0), (19, vi pl)]) (st2 := [vi (D 3), vi p]) kL_law_925 rfl ?_
    refine AQ.of (AS.ic_ge_t (tgt := 936) eL_law_929 (by decide) (by first | assumption | exact ⟨by omega, by omega⟩ | exact ⟨by decide, by decide⟩) (by first | assumption | exact ⟨by omega, by omega⟩ | exact ⟨by decide, by decide⟩) (by omega)) ?_
    refine q_blk (lv2 := [(0, vr b0), (1, vi 1), (2, vi i9), (3, vr o), (4, vr bu), (5, vr r), (6, vr f), (7, vr bf), (8, vi dn), (9, vi n), (10, vr g9), (11, vi 1), (12, vi (-2000000097)), (13, vi (D 3)), (14, vi p), (15, vi x), (16, vi y), (17, vi 0), (18, vi 0), (19, vi pl)]) (st2 := [vi 0]) kL_law_936 rfl ?_
    refine q_blk (lv2 := [(0, vr b0), (1, vi 1), (2, vi i9), (3, vr o), (4, vr bu), (5, vr r), (6, vr f), (7, vr bf), (8, vi dn), (9, vi n), (10, vr g9), (11, vi 0), (12, vi (-2000000097)), (13, vi (D 3)), (14, vi p), (15, vi x), (16, vi y), (17, vi 0), (18, vi 0), (19, vi pl)]) (st2 := [vi 0]) kL_law_937 rfl ?_
    refine AQ.of (AS.if_eq_t (tgt := 959) eL_law_941 (by decide) ⟨by decide, by decide⟩ (by decide)) ?_
    refine q_blk (lv2 := [(0, vr b0), (1, vi 1), (2, vi i9), (3, vr o), (4, vr bu), (5, vr r), (6, vr f), (7, vr bf), (8, vi dn), (9, vi n), (10, vr g9), (11, vi 0), (12, vi (-2000000097)), (13, vi (D 3)), (14, vi p), (15, vi x), (16, vi y), (17, vi 0), (18, vi 0), (19, vi pl)]) (st2 := [vi p, vr o]) kL_law_959 rfl ?_
    refine AQ.callWi (av := [vr o, vi p]) (st := []) (c_L_remove (c_X8_remove (MID.inc g4i).1.1 ⟨by omega, by omega⟩) (MID.inc g4i).1.1.ob (fun k h1 q => by rcases q.1 with ⟨_, e⟩ | ⟨_, e⟩ <;> first | (cases e; rfl) | exact e.elim)) lkw_L_remove (by omega) rfl rfl (Nat.le_of_ble_eq_true rfl) eL_law_962 (fun z6 h8 e7 => ?_)
    obtain ⟨z6e, z6h⟩ := gx_th (k0 := 2) (fun q => by have := q.1; omega) (fun k q => by rcases q with ⟨a, e⟩ | ⟨_, e⟩ <;> first | (cases e; first | rfl | omega) | exact e.elim) e7
    subst z6h
    obtain rfl : z6 = (-2000000097) := z6e
    have z6t : (gm_thr h3).2.1 = h3.2.1 + 1 := rfl
    have z6s : (gm_thr h3).2.2 = h3.2.2 + 6 := rfl
    refine q_blk (lv2 := [(0, vr b0), (1, vi 1), (2, vi i9), (3, vr o), (4, vr bu), (5, vr r), (6, vr f), (7, vr bf), (8, vi dn), (9, vi n), (10, vr g9), (11, vi 0), (12, vi (-2000000097)), (13, vi (D 3)), (14, vi p), (15, vi x), (16, vi y), (17, vi 0), (18, vi 0), (19, vi pl)]) (st2 := [vi 0, vi (-2000000097)]) kL_law_965 rfl ?_
    refine AQ.of (AS.if_eq_t (tgt := 975) eL_law_967 (by decide) ⟨by decide, by decide⟩ (by decide)) ?_
    refine AQ.of (AS.ldc (z := (-2000000097)) eL_law_975 (show Cond.constant RL 58 (Int32.ofInt (-2000000097)) ∈ GW from am_gw 1087 (by decide +kernel) (by decide +kernel))) ?_
    refine AQ.of (AS.ic_ne_f eL_law_977 ⟨by decide, by decide⟩ ⟨by decide, by decide⟩ rfl (by decide)) ?_
    refine q_blk (lv2 := [(0, vr b0), (1, vi 1), (2, vi i9), (3, vr o), (4, vr bu), (5, vr r), (6, vr f), (7, vr bf), (8, vi dn), (9, vi n), (10, vr g9), (11, vi 0), (12, vi (-2000000097)), (13, vi (D 3)), (14, vi p), (15, vi x), (16, vi y), (17, vi 0), (18, vi 0), (19, vi pl)]) (st2 := [vi 1]) kL_law_980 rfl ?_
    refine q_goto (tgt := 985) eL_law_981 (by decide) ?_
    refine q_blk (lv2 := [(0, vr b0), (1, vi 1), (2, vi i9), (3, vr o), (4, vr bu), (5, vr r), (6, vr f), (7, vr bf), (8, vi dn), (9, vi n), (10, vr g9), (11, vi 0), (12, vi (-2000000097)), (13, vi (D 3)), (14, vi p), (15, vi x), (16, vi y), (17, vi 0), (18, vi 0), (19, vi pl)]) (st2 := []) kL_law_985 rfl ?_
    refine q_goto (tgt := 1123) eL_law_986 (by decide) ?_
    refine q_sub (lv2 := [(0, vr b0), (1, vi 1), (2, vi i9), (3, vr o), (4, vr bu), (5, vr r), (6, vr f), (7, vr bf), (8, vi dn), (9, vi n), (10, vr g9), (11, vi 0)]) [0, 1, 2, 3, 4, 5, 6, 7, 8, 9, 10, 11] rfl ?_
    exact kk 0 (gm_thr h3) (RES.no g4i) ⟨by omega, by omega⟩
  · skip
    refine q_blk (lv2 := [(0, vr b0), (1, vi 1), (2, vi i9), (3, vr o), (4, vr bu), (5, vr r), (6, vr f), (7, vr bf), (8, vi dn), (9, vi n), (10, vr g9), (11, vi 1), (12, vi (-2000000097)), (13, vi (D 3)), (14, vi (D 3)), (15, vi x), (16, vi y), (17, vi 0), (18, vi 0), (19, vi pl)]) (st2 := []) kL_law_921 rfl ?_
    refine q_blk (lv2 := [(0, vr b0), (1, vi 1), (2, vi i9), (3, vr o), (4, vr bu), (5, vr r), (6, vr f), (7, vr bf), (8, vi dn), (9, vi n), (10, vr g9), (11, vi 1), (12, vi (-2000000097)), (13, vi (D 3)), (14, vi (D 3)), (15, vi x), (16, vi y), (17, vi 0), (18, vi 0), (19, vi pl)]) (st2 := [vi (D 3), vi (D 3)]) kL_law_925 rfl ?_
    refine AQ.of (AS.ic_ge_t (tgt := 936) eL_law_929 (by decide) (by first | assumption | exact ⟨by omega, by omega⟩ | exact ⟨by decide, by decide⟩) (by first | assumption | exact ⟨by omega, by omega⟩ | exact ⟨by decide, by decide⟩) (by omega)) ?_
    refine q_blk (lv2 := [(0, vr b0), (1, vi 1), (2, vi i9), (3, vr o), (4, vr bu), (5, vr r), (6, vr f), (7, vr bf), (8, vi dn), (9, vi n), (10, vr g9), (11, vi 1), (12, vi (-2000000097)), (13, vi (D 3)), (14, vi (D 3)), (15, vi x), (16, vi y), (17, vi 0), (18, vi 0), (19, vi pl)]) (st2 := [vi 0]) kL_law_936 rfl ?_
    refine q_blk (lv2 := [(0, vr b0), (1, vi 1), (2, vi i9), (3, vr o), (4, vr bu), (5, vr r), (6, vr f), (7, vr bf), (8, vi dn), (9, vi n), (10, vr g9), (11, vi 0), (12, vi (-2000000097)), (13, vi (D 3)), (14, vi (D 3)), (15, vi x), (16, vi y), (17, vi 0), (18, vi 0), (19, vi pl)]) (st2 := [vi 0]) kL_law_937 rfl ?_
    refine AQ.of (AS.if_eq_t (tgt := 959) eL_law_941 (by decide) ⟨by decide, by decide⟩ (by decide)) ?_
    refine q_blk (lv2 := [(0, vr b0), (1, vi 1), (2, vi i9), (3, vr o), (4, vr bu), (5, vr r), (6, vr f), (7, vr bf), (8, vi dn), (9, vi n), (10, vr g9), (11, vi 0), (12, vi (-2000000097)), (13, vi (D 3)), (14, vi (D 3)), (15, vi x), (16, vi y), (17, vi 0), (18, vi 0), (19, vi pl)]) (st2 := [vi (D 3), vr o]) kL_law_959 rfl ?_
    refine AQ.callWi (av := [vr o, vi (D 3)]) (st := []) (c_L_remove (c_X8_remove (MID.inc g4i).1.1 ⟨by omega, by omega⟩) (MID.inc g4i).1.1.ob (fun k h1 q => by rcases q.1 with ⟨_, e⟩ | ⟨_, e⟩ <;> first | (cases e; rfl) | exact e.elim)) lkw_L_remove (by omega) rfl rfl (Nat.le_of_ble_eq_true rfl) eL_law_962 (fun z9 h11 e10 => ?_)
    obtain ⟨z9e, z9h⟩ := gx_th (k0 := 2) (fun q => by have := q.1; omega) (fun k q => by rcases q with ⟨a, e⟩ | ⟨_, e⟩ <;> first | (cases e; first | rfl | omega) | exact e.elim) e10
    subst z9h
    obtain rfl : z9 = (-2000000097) := z9e
    have z9t : (gm_thr h3).2.1 = h3.2.1 + 1 := rfl
    have z9s : (gm_thr h3).2.2 = h3.2.2 + 6 := rfl
    refine q_blk (lv2 := [(0, vr b0), (1, vi 1), (2, vi i9), (3, vr o), (4, vr bu), (5, vr r), (6, vr f), (7, vr bf), (8, vi dn), (9, vi n), (10, vr g9), (11, vi 0), (12, vi (-2000000097)), (13, vi (D 3)), (14, vi (D 3)), (15, vi x), (16, vi y), (17, vi 0), (18, vi 0), (19, vi pl)]) (st2 := [vi 0, vi (-2000000097)]) kL_law_965 rfl ?_
    refine AQ.of (AS.if_eq_t (tgt := 975) eL_law_967 (by decide) ⟨by decide, by decide⟩ (by decide)) ?_
    refine AQ.of (AS.ldc (z := (-2000000097)) eL_law_975 (show Cond.constant RL 58 (Int32.ofInt (-2000000097)) ∈ GW from am_gw 1087 (by decide +kernel) (by decide +kernel))) ?_
    refine AQ.of (AS.ic_ne_f eL_law_977 ⟨by decide, by decide⟩ ⟨by decide, by decide⟩ rfl (by decide)) ?_
    refine q_blk (lv2 := [(0, vr b0), (1, vi 1), (2, vi i9), (3, vr o), (4, vr bu), (5, vr r), (6, vr f), (7, vr bf), (8, vi dn), (9, vi n), (10, vr g9), (11, vi 0), (12, vi (-2000000097)), (13, vi (D 3)), (14, vi (D 3)), (15, vi x), (16, vi y), (17, vi 0), (18, vi 0), (19, vi pl)]) (st2 := [vi 1]) kL_law_980 rfl ?_
    refine q_goto (tgt := 985) eL_law_981 (by decide) ?_
    refine q_blk (lv2 := [(0, vr b0), (1, vi 1), (2, vi i9), (3, vr o), (4, vr bu), (5, vr r), (6, vr f), (7, vr bf), (8, vi dn), (9, vi n), (10, vr g9), (11, vi 0), (12, vi (-2000000097)), (13, vi (D 3)), (14, vi (D 3)), (15, vi x), (16, vi y), (17, vi 0), (18, vi 0), (19, vi pl)]) (st2 := []) kL_law_985 rfl ?_
    refine q_goto (tgt := 1123) eL_law_986 (by decide) ?_
    refine q_sub (lv2 := [(0, vr b0), (1, vi 1), (2, vi i9), (3, vr o), (4, vr bu), (5, vr r), (6, vr f), (7, vr bf), (8, vi dn), (9, vi n), (10, vr g9), (11, vi 0)]) [0, 1, 2, 3, 4, 5, 6, 7, 8, 9, 10, 11] rfl ?_
    exact kk 0 (gm_thr h3) (RES.no g4i) ⟨by omega, by omega⟩
