/-! The class and the model side by side. -/
/-! the class and the model side by side -/
theorem CCS.same {h : AH} {o u b a j t s r : Nat} {D cm E : Int → Int} {sc : Nat} {L : GL} {tx : Int → Int} {bl le : Int} {Hs : List GE} (k : CCS h o u b a j t s r D cm sc L tx bl le Hs) (g : gm_same D E) : CCS h o u b a j t s r E cm sc L tx bl le Hs := by
  obtain ⟨k0, c0, c1, c2, c3, ⟨v1, v2, v3, v4⟩, c5⟩ := k
  exact ⟨k0, c0, c1, c2, c3.same g, ⟨v1.same g, v2.same g, v3.same v1 g, v4⟩, c5⟩
theorem SCW.fr {h h1 : AH} {o sc lo hi : Nat} {L : GL} (k : SCW h o sc L) (f : am_fr h h1 lo hi) (hd : sc < lo ∨ hi ≤ sc) : SCW h1 o sc L := ⟨k.1.kept f hd, k.2.1, by rw [f.1]; exact k.2.2⟩
/-- cells beyond the object have changed -/
theorem CCS.away {h h1 : AH} {o u b a j t s r : Nat} {D cm : Int → Int} {sc lo hi : Nat} {L : GL} {tx : Int → Int} {bl le : Int} {Hs : List GE} (k : CCS h o u b a j t s r D cm sc L tx bl le Hs) (f : am_fr h h1 lo hi) (hl : o + 256 ≤ lo) (hs : sc < lo ∨ hi ≤ sc) (hH : ∀ e ∈ Hs, e.2.2.1 < lo ∨ hi ≤ e.2.2.1) : CCS h1 o u b a j t s r D cm sc L tx bl le Hs := by
  obtain ⟨⟨k1, k2, k3, k4, k5, k6, k7, k8⟩, c0, ⟨c1, x1⟩, c2, c3, ⟨v1, v2, v3, v4⟩, c5, c6, c7, c8, c9, c10, c11⟩ := k
  exact ⟨⟨k1, k2, k3, k4, k5, k6, k7, by rw [f.1]; exact k8⟩, (f.2 _ (by omega)).trans c0, ⟨c1.kept f (by omega), x1⟩, c2, c3.kept f (by omega) v1.2.2.2.1.2, ⟨v1, v2, v3, v4.fr f hs⟩, c5.kept f (by omega), (f.2 _ (by omega)).trans c6, c7.kept f (by omega), c8.kept f (by omega), SCD.kept9 c9 f (by omega), c10.kept f (by omega), fun e he => ⟨(c11 e he).1, (c11 e he).2.1, (c11 e he).2.2.1, (c11 e he).2.2.2.fr f (hH e he)⟩⟩
theorem MM.go {h h1 : AH} {n : Nat} {th bl tl ps er ea eo ud g0 g1 g2 g3 ns ne se : Int} {D : Int → Int} (k : MM h n th bl tl ps er ea eo ud g0 g1 g2 g3 ns ne se D) (f : ∀ q, n ≤ q → q < n + 14 → h1.1 q = h.1 q) : MM h1 n th bl tl ps er ea eo ud g0 g1 g2 g3 ns ne se D := ⟨(f _ (by omega) (by omega)).trans k.1, (f _ (by omega) (by omega)).trans k.2⟩
/-- the model's cells are as they were -/
theorem MA.go {h h1 : AH} {n : Nat} {th bl eo ud : Int} {bf : Int → Int} {rw : Int → Int → Int} {D : Int → Int} (k : MA h n th bl eo ud bf rw D) (f : ∀ q, n ≤ q → q < n + 14 → h1.1 q = h.1 q) : MA h1 n th bl eo ud bf rw D := by
  obtain ⟨tl, ps, er, ea, g0, g1, g2, g3, ns, ne, se, od, sk, hm, ⟨r1, r2, r3, r4⟩, hK⟩ := k
  exact ⟨tl, ps, er, ea, g0, g1, g2, g3, ns, ne, se, od, sk, hm.go f, ⟨(f _ (by omega) (by omega)).trans r1, (f _ (by omega) (by omega)).trans r2, (f _ (by omega) (by omega)).trans r3, fun i i0 i1 => (f _ (by omega) (by omega)).trans (r4 i i0 i1)⟩, (f _ (by omega) (by omega)).trans hK⟩
theorem MA.ob {h : AH} {n : Nat} {th bl eo ud : Int} {bf : Int → Int} {rw : Int → Int → Int} {D : Int → Int} (k : MA h n th bl eo ud bf rw D) : am_ob h n 8 := by
  obtain ⟨tl, ps, er, ea, g0, g1, g2, g3, ns, ne, se, od, sk, hm, -⟩ := k
  exact hm.ob
/-- the sides of a polygon meet in corners alone -/
def GVp (D : Int → Int) (p : Int) : Prop := ∀ i j, 0 ≤ i → i < j → j < gm_ns (pN D p) (pC D p) → ¬ gm_mt (pX D p i) (pY D p i) (pX D p (gm_nx (pN D p) i)) (pY D p (gm_nx (pN D p) i)) (pX D p j) (pY D p j) (pX D p (gm_nx (pN D p) j)) (pY D p (gm_nx (pN D p) j))
def GV (D : Int → Int) : Prop := ∀ p, 0 ≤ p → p < D 3 → GVp D p
theorem GV.same {D E : Int → Int} (hD : VD D) (h : GV D) (g : gm_same D E) : GV E := by
  intro p p0 p1
  rw [g.2.2.2.1] at p1
  have r := g.2.2.2.2.2 p p0 p1
  have n := hD.n p0 p1
  intro i j i0 ij j1
  rw [r.2.1, r.2.2.1] at j1
  have jn : j < pN D p := by unfold gm_ns at j1; split at j1 <;> omega
  have a := r.2.2.2 i i0 (by omega)
  have b := r.2.2.2 j (by omega) jn
  have ni := gm_nx_r (n := pN D p) i0 (by omega)
  have nj := gm_nx_r (n := pN D p) (k := j) (by omega) jn
  have c := r.2.2.2 _ ni.1 ni.2
  have d := r.2.2.2 _ nj.1 nj.2
  rw [r.2.1, a.1, a.2, b.1, b.2, c.1, c.2, d.1, d.2]
  exact h p p0 p1 i j i0 ij j1
/-- the class's part: the object, and the array that the law's calls answer into -/
def JC (w : am_w) (h : AH) (o n out : Nat) (D cm : Int → Int) (sc : Nat) (L : GL) (tx : Int → Int) (bl le : Int) (Hs : List GE) (f : Int → Int) : Prop :=
  CCS h o (o + 1) (o + 2) (o + 26) (o + 50) (o + 52) (o + 59) (o + 62) D cm sc L tx bl le Hs ∧ h.1 out = some (102, 1, f, am_N) ∧ (o + 256 ≤ n ∧ n + 14 ≤ out ∧ out < h.2.1) ∧ PLN w h o ∧ (sc < o ∨ out < sc) ∧ (∀ e ∈ Hs, e.2.2.1 < o ∨ out < e.2.2.1) ∧ GV D ∧ ∀ e ∈ Hs, GV e.1
/-- the rows of the model's history, and the class's -/
def HR (ud : Int) (rw : Int → Int → Int) (Hs : List GE) : Prop := ud = (Hs.length : Int) ∧ Hs.length ≤ 8 ∧ ∀ (k : Nat) (e : GE), Hs[k]? = some e → gm_same e.1 (rw (ud - 1 - k)) ∧ CO (rw (ud - 1 - k)) e.2.2.2
section JJ
variable {w : am_w} {h h1 : AH} {o n out : Nat} {D cm : Int → Int} {sc : Nat} {L : GL} {tx : Int → Int} {bl le : Int} {Hs : List GE} {f : Int → Int}
theorem JC.vd (k : JC w h o n out D cm sc L tx bl le Hs f) : VD D := k.1.2.2.2.2.2.1.1
theorem JC.ms (k : JC w h o n out D cm sc L tx bl le Hs f) : CMS D cm := k.1.2.2.2.2.2.1.2.2.1
theorem JC.ve (k : JC w h o n out D cm sc L tx bl le Hs f) : VE D := k.1.2.2.2.2.2.1.2.1
theorem JC.wf (k : JC w h o n out D cm sc L tx bl le Hs f) : gm_wf L 0 := k.1.2.2.2.2.2.1.2.2.2.2.1
theorem JC.b8 (k : JC w h o n out D cm sc L tx bl le Hs f) : 0 ≤ bl ∧ bl ≤ 800 := k.1.2.2.2.1
theorem JC.hv (k : JC w h o n out D cm sc L tx bl le Hs f) : ∀ e ∈ Hs, VD e.1 := fun e he => (k.1.2.2.2.2.2.2.2.2.2.2.2.2 e he).1
theorem PLN.fr {lo hi : Nat} (k : PLN w h o) (f : am_fr h h1 lo hi) (hl : o ≤ lo) : PLN w h1 o := ⟨k.1.kept f (by have := k.2; omega), k.2⟩
/-- the model has moved -/
theorem JC.m (k : JC w h o n out D cm sc L tx bl le Hs f) (g : am_fr h h1 n (n + 14)) : JC w h1 o n out D cm sc L tx bl le Hs f := by
  obtain ⟨k1, k2, ⟨k3, k4, k5⟩, k6, k7, k8, k9, k10⟩ := k
  exact ⟨k1.away g k3 (by omega) (fun e he => by have := k8 e he; omega), (g.2 _ (by omega)).trans k2, ⟨k3, k4, by rw [g.1]; exact k5⟩, k6.fr g (by omega), k7, k8, k9, k10⟩
/-- an answer is laid into the law's array -/
theorem JC.wo (k : JC w h o n out D cm sc L tx bl le Hs f) {f' : Int → Int} (e : h1 = am_set h out (102, 1, f', am_N)) : JC w h1 o n out D cm sc L tx bl le Hs f' := by
  obtain ⟨k1, k2, ⟨k3, k4, k5⟩, k6, k7, k8, k9, k10⟩ := k
  have g : am_fr h h1 out (out + 1) := am_fr.st e (by omega) (by omega)
  exact ⟨k1.away g (by omega) (by omega) (fun e he => by have := k8 e he; omega), am_at e, ⟨k3, k4, by rw [g.1]; exact k5⟩, k6.fr g (by omega), k7, k8, k9, k10⟩
theorem JC.thr (k : JC w h o n out D cm sc L tx bl le Hs f) : JC w (gm_thr h) o n out D cm sc L tx bl le Hs f := by
  obtain ⟨k1, k2, ⟨k3, k4, k5⟩, k6, k7, k8, k9, k10⟩ := k
  exact ⟨k1.thr, k2, ⟨k3, k4, Nat.le_succ_of_le k5⟩, k6, k7, k8, k9, k10⟩
/-- the class has moved, its board not -/
theorem JC.c {m : Nat} {tx' : Int → Int} {bl' le' : Int} (k : JC w h o n out D cm sc L tx bl le Hs f) (c : CCS h1 o (o + 1) (o + 2) (o + 26) (o + 50) (o + 52) (o + 59) (o + 62) D cm sc L tx' bl' le' Hs) (g : am_go m h h1 o) : JC w h1 o n out D cm sc L tx' bl' le' Hs f := by
  obtain ⟨k1, k2, ⟨k3, k4, k5⟩, k6, k7, k8, k9, k10⟩ := k
  exact ⟨c, (g.2 _ k5 (by omega)).trans k2, ⟨k3, k4, Nat.lt_of_lt_of_le k5 g.1.1⟩, k6.go g (by omega), k7, k8, k9, k10⟩
/-- the class has a new board -/
theorem JC.nw {m : Nat} {D' cm' : Int → Int} {sc' : Nat} {L' : GL} {Hs' : List GE} {tx' : Int → Int} {bl' le' : Int} (k : JC w h o n out D cm sc L tx bl le Hs f) (c : CCS h1 o (o + 1) (o + 2) (o + 26) (o + 50) (o + 52) (o + 59) (o + 62) D' cm' sc' L' tx' bl' le' Hs') (g : am_go m h h1 o) (hs : sc' < o ∨ out < sc') (hH : ∀ e ∈ Hs', e.2.2.1 < o ∨ out < e.2.2.1) (hG : GV D') (hG2 : ∀ e ∈ Hs', GV e.1) : JC w h1 o n out D' cm' sc' L' tx' bl' le' Hs' f := by
  obtain ⟨k1, k2, ⟨k3, k4, k5⟩, k6, k7, k8, k9, k10⟩ := k
  exact ⟨c, (g.2 _ k5 (by omega)).trans k2, ⟨k3, k4, Nat.lt_of_lt_of_le k5 g.1.1⟩, k6.go g (by omega), hs, hH, hG, hG2⟩
theorem JC.same {E : Int → Int} (k : JC w h o n out D cm sc L tx bl le Hs f) (g : gm_same D E) : JC w h o n out E cm sc L tx bl le Hs f := by
  have v := k.vd
  obtain ⟨k1, k2, k3, k6, k7, k8, k9, k10⟩ := k
  exact ⟨k1.same g, k2, k3, k6, k7, k8, k9.same v g, k10⟩
/-- the model is as it was when the class has moved -/
theorem MA.c {m : Nat} {th bl' eo ud : Int} {bf : Int → Int} {rw : Int → Int → Int} {E : Int → Int} (a : MA h n th bl' eo ud bf rw E) (k : JC w h o n out D cm sc L tx bl le Hs f) (g : am_go m h h1 o) : MA h1 n th bl' eo ud bf rw E := a.go fun q q0 q1 => g.2 q (by have := k.2.2.1; omega) (by have := k.2.2.1; omega)
theorem MA.wo {th bl' eo ud : Int} {bf : Int → Int} {rw : Int → Int → Int} {E f' : Int → Int} (a : MA h n th bl' eo ud bf rw E) (k : JC w h o n out D cm sc L tx bl le Hs f) (e : h1 = am_set h out (102, 1, f', am_N)) : MA h1 n th bl' eo ud bf rw E := a.go fun q q0 q1 => am_ne e q (by have := k.2.2.1; omega)
theorem MA.thr {th bl' eo ud : Int} {bf : Int → Int} {rw : Int → Int → Int} {E : Int → Int} (a : MA h n th bl' eo ud bf rw E) : MA (gm_thr h) n th bl' eo ud bf rw E := a.go fun _ _ _ => rfl
theorem HR.push {ud ud' : Int} {rw rw' : Int → Int → Int} (k : HR ud rw Hs) (p : PU ud rw D ud' rw') (hD : VD D) (hV : ∀ e ∈ Hs, VD e.1) (hC : CO D L) : HR ud' rw' ((D, cm, sc, L) :: Hs.take 7) := by
  obtain ⟨k1, k2, k3⟩ := k
  have E : ∀ (k : Nat) (e : GE) (i i' : Int), Hs[k]? = some e → i = ud - 1 - k → gm_eq8 (rw i) (rw' i') → gm_same e.1 (rw' i') ∧ CO (rw' i') e.2.2.2 := fun k e i i' he hi hq => by
    subst hi
    obtain ⟨a, b⟩ := k3 k e he
    have v := (hV e (List.mem_of_getElem? he)).same a
    exact ⟨a.tr (hq.same v), b.eq8 hq⟩
  rcases p with ⟨p1, p2, p3, p4⟩ | ⟨p1, p2, p3, p4⟩
  · have t : Hs.take 7 = Hs := List.take_of_length_le (by omega)
    rw [t]
    refine ⟨by rw [List.length_cons]; omega, by rw [List.length_cons]; omega, fun k e he => ?_⟩
    cases k with
    | zero =>
      cases he
      rw [show ud' - 1 - ((0 : Nat) : Int) = ud by omega]
      exact ⟨p3.same hD, hC.eq8 p3⟩
    | succ k =>
      have he : Hs[k]? = some e := he
      have hlt := (List.getElem?_eq_some_iff.mp he).1
      refine E k e (ud - 1 - k) _ he rfl ?_
      rw [show ud' - 1 - ((k + 1 : Nat) : Int) = ud - 1 - k by omega]
      exact p4 _ (by omega) (by omega)
  · have l8 : Hs.length = 8 := by omega
    refine ⟨by rw [List.length_cons, List.length_take]; omega, by rw [List.length_cons, List.length_take]; omega, fun k e he => ?_⟩
    cases k with
    | zero =>
      cases he
      rw [show ud' - 1 - ((0 : Nat) : Int) = 7 by omega]
      exact ⟨p3.same hD, hC.eq8 p3⟩
    | succ k =>
      have he : (Hs.take 7)[k]? = some e := he
      have hlt := (List.getElem?_eq_some_iff.mp he).1
      rw [List.length_take] at hlt
      have he2 : Hs[k]? = some e := by
        rw [List.getElem?_take] at he
        rw [if_pos (by omega)] at he
        exact he
      refine E k e (ud - 1 - k) _ he2 rfl ?_
      rw [show ud' - 1 - ((k + 1 : Nat) : Int) = 6 - k by omega, show ud - 1 - (k : Int) = 6 - k + 1 by omega]
      exact p4 _ (by omega) (by omega)
end JJ
/-! one answer -/
def UN (A : Int ⊕ Nat → Prop) : Prop := ∀ r r', A r → A r' → r = r'
theorem UN.p {D : Int → Int} {p : Int} {A : Int ⊕ Nat → Prop} (h : (0 ≤ p ∧ p < D 3) → UN A) : UN (gA_p D p A) := by
  rintro r r' (⟨a, b⟩ | ⟨a, b⟩) (⟨a', b'⟩ | ⟨a', b'⟩)
  · rw [b, b']
  · exact absurd a' a
  · exact absurd a a'
  · exact h a r r' b b'
theorem UN.k {D : Int → Int} {p k : Int} {A : Int ⊕ Nat → Prop} (h : UN A) : UN (gA_k D p k A) := by
  rintro r r' (⟨a, b⟩ | ⟨a, b⟩) (⟨a', b'⟩ | ⟨a', b'⟩)
  · rw [b, b']
  · exact absurd a' a
  · exact absurd a a'
  · exact h r r' b b'
theorem UN.xy {D : Int → Int} {x y : Int} {A : Int ⊕ Nat → Prop} (h : UN A) : UN (gA_xy D x y A) := by
  rintro r r' (⟨a, b⟩ | ⟨a, b⟩) (⟨a', b'⟩ | ⟨a', b'⟩)
  · rw [b, b']
  · exact absurd a' a
  · exact absurd a a'
  · exact h r r' b b'
theorem UN.c {D : Int → Int} {p : Int} {A : Int ⊕ Nat → Prop} (h : UN A) : UN (gA_c D p A) := by
  rintro r r' (⟨a, b⟩ | ⟨a, b⟩) (⟨a', b'⟩ | ⟨a', b'⟩)
  · rw [b, b']
  · omega
  · omega
  · exact h r r' b b'
theorem UN.pl {pl : Int} {A : Int ⊕ Nat → Prop} (h : UN A) : UN (gA_pl pl A) := by
  rintro r r' (⟨a, b⟩ | ⟨a, b⟩) (⟨a', b'⟩ | ⟨a', b'⟩)
  · rw [b, b']
  · exact absurd a' a
  · exact absurd a a'
  · exact h r r' b b'
theorem UN.f {D : Int → Int} {A : Int ⊕ Nat → Prop} (h : UN A) : UN (gA_f D A) := by
  rintro r r' (⟨a, b⟩ | ⟨a, b⟩) (⟨a', b'⟩ | ⟨a', b'⟩)
  · rw [b, b']
  · omega
  · omega
  · exact h r r' b b'
theorem UN.F : UN gm_F := fun r r' a => a.elim
theorem UN.z {P : Int → Prop} (h : ∀ z z', P z → P z' → z = z') : UN (gA_z P) := by
  rintro r r' ⟨z, a, rfl⟩ ⟨z', a', rfl⟩
  rw [h z z' a a']
theorem UN.e {v : Int} : UN (gA_z (fun z => z = v)) := UN.z fun z z' a b => a.trans b.symm
theorem UN.l {v : Int} : UN (fun r => r = .inl v) := fun r r' a b => a.trans b.symm
theorem UN.cnt {D cm : Int → Int} {q : Int} : UN (gA_cnt D cm q) := by
  rintro r r' (⟨a, b⟩ | ⟨a, b⟩ | ⟨a, b⟩ | ⟨a, b⟩ | ⟨a, b⟩ | ⟨a, b⟩ | ⟨a, b⟩) (⟨a', b'⟩ | ⟨a', b'⟩ | ⟨a', b'⟩ | ⟨a', b'⟩ | ⟨a', b'⟩ | ⟨a', b'⟩ | ⟨a', b'⟩) <;> first | (exact b.trans b'.symm) | (exfalso; omega)
theorem UN.sto {D cm : Int → Int} {k q : Int} : UN (gA_sto D cm k q) := by
  rintro r r' (⟨a, b⟩ | ⟨a, b⟩) (⟨a', b'⟩ | ⟨a', b'⟩)
  · rw [b, b']
  · exact absurd a' a
  · exact absurd a a'
  · rcases b with ⟨c, b⟩ | ⟨c, b⟩ | ⟨c, b⟩ | ⟨c, b⟩ | ⟨c, b⟩ <;> rcases b' with ⟨c', b'⟩ | ⟨c', b'⟩ | ⟨c', b'⟩ | ⟨c', b'⟩ | ⟨c', b'⟩ <;> first | (exact b.trans b'.symm) | (exfalso; omega)
theorem UN.pol {D : Int → Int} {p q : Int} : UN (gA_pol D p q) := by
  rintro r r' (⟨a, b⟩ | ⟨a, b⟩ | ⟨a, b⟩ | ⟨a, b⟩) (⟨a', b'⟩ | ⟨a', b'⟩ | ⟨a', b'⟩ | ⟨a', b'⟩) <;> first | (exact b.trans b'.symm) | (exfalso; omega)
