/-! The law's Field: copied, added to, taken from. -/
/-- the cells of a field that change: itself, its shapes -/
def MS (f : Nat) (gp : Int → Option Nat) (n : Int) (q : Nat) : Prop := q = f ∨ ∃ p, 0 ≤ p ∧ p < n ∧ gp p = some q
/-- made since -/
def FR (h h1 : AH) (q : Nat) : Prop := h.2.1 ≤ q ∧ q < h1.2.1
theorem LSH.mv {h h1 : AH} {B B1 : Nat → Prop} {a : Nat} {n cl ow : Int} {xs ys : Int → Int} (hS : LSH h B a n cl ow xs ys) {f : Nat} {nn : Int} {ff : Int → Int} {fg : Int → Option Nat} {ci : Nat} (cf : h.1 f = some (ci, nn, ff, fg)) (hc : ci ≠ 11 ∧ ci ≠ 100) (F : ∀ q, B q → q ≠ f → h1.1 q = h.1 q) (hB : ∀ q, B q → B1 q) : LSH h1 B1 a n cl ow xs ys := by
  obtain ⟨ca, c, ⟨b1, b2⟩, c0, c1, hx⟩ := hS
  have n1 : a ≠ f := fun e => by rw [e, cf] at c0; cases c0; exact hc.1 rfl
  have n2 : ca ≠ f := fun e => by rw [e, cf] at c1; cases c1; exact hc.2 rfl
  exact ⟨ca, c, ⟨hB _ b1, hB _ b2⟩, (F _ b1 n1).trans c0, (F _ b2 n2).trans c1, hx⟩
theorem LSH.sm {h : AH} {B : Nat → Prop} {a : Nat} {n cl ow : Int} {xs ys xs' ys' : Int → Int} (hS : LSH h B a n cl ow xs ys) (e : ∀ k, 0 ≤ k → k < n → xs' k = xs k ∧ ys' k = ys k) : LSH h B a n cl ow xs' ys' := by
  obtain ⟨ca, c, b, c0, c1, hx⟩ := hS
  exact ⟨ca, c, b, c0, c1, fun k k0 k1 => by rw [(e k k0 k1).1, (e k k0 k1).2]; exact hx k k0 k1⟩
theorem FLD.loc {h h1 : AH} {B B1 : Nat → Prop} {f sa pa : Nat} {gs gp : Int → Option Nat} {T : Option Nat} {D : Int → Int} (hF : FLD h B f sa pa gs gp T D) (F : ∀ q, B q → h1.1 q = h.1 q) (hB : ∀ q, B q → B1 q) : FLD h1 B1 f sa pa gs gp T D := by
  obtain ⟨⟨bf, bs, bp⟩, c0, ⟨fz1, c1⟩, ⟨fz2, c2⟩, hst, hsh, hij⟩ := hF
  refine ⟨⟨hB _ bf, hB _ bs, hB _ bp⟩, (F _ bf).trans c0, ⟨fz1, (F _ bs).trans c1⟩, ⟨fz2, (F _ bp).trans c2⟩, fun k k0 k1 => ?_, fun p p0 p1 => ?_, hij⟩
  · obtain ⟨q, fs, g, b, c, e⟩ := hst k k0 k1
    exact ⟨q, fs, g, hB _ b, (F _ b).trans c, e⟩
  · obtain ⟨q, g, ca, c, ⟨b1, b2⟩, c3, c4, hx⟩ := hsh p p0 p1
    exact ⟨q, g, ca, c, ⟨hB _ b1, hB _ b2⟩, (F _ b1).trans c3, (F _ b2).trans c4, hx⟩
theorem FLD.nms {h : AH} {B : Nat → Prop} {f sa pa : Nat} {gs gp : Int → Option Nat} {T : Option Nat} {D : Int → Int} (hF : FLD h B f sa pa gs gp T D) {q ci : Nat} {nn : Int} {ff : Int → Int} {fg : Int → Option Nat} (hc : h.1 q = some (ci, nn, ff, fg)) (h8 : ci ≠ 8 ∧ ci ≠ 11) : ¬ MS f gp (D 3) q := by
  rintro (rfl | ⟨p, p0, p1, e⟩)
  · have := hF.2.1
    rw [hc] at this; cases this; exact h8.1 rfl
  · obtain ⟨a, g, ca, c, -, c0, -⟩ := hF.2.2.2.2.2.1 p p0 p1
    rw [e] at g
    cases g
    rw [hc] at c0; cases c0; exact h8.2 rfl
/-- the stones' part, under a frame -/
theorem FLD.stn {h h1 : AH} {B B1 : Nat → Prop} {f sa pa : Nat} {gs gp : Int → Option Nat} {T : Option Nat} {D : Int → Int} (hF : FLD h B f sa pa gs gp T D) {E : Int → Int} (e2 : E 2 = D 2) (es : ∀ k, 0 ≤ k → k < D 2 → sX E k = sX D k ∧ sY E k = sY D k ∧ sV E k = sV D k) (F : ∀ q, B q → ¬ MS f gp (D 3) q → h1.1 q = h.1 q) (hB : ∀ q, B q → ¬ MS f gp (D 3) q → B1 q) : B1 sa ∧ (∃ fz, h1.1 sa = some (105, E 2, fz, gs)) ∧ ∀ k, 0 ≤ k → k < E 2 → ∃ q fs, gs k = some q ∧ B1 q ∧ h1.1 q = some (100, 3, fs, am_N) ∧ fs 0 = sX E k ∧ fs 1 = sY E k ∧ fs 2 = sV E k := by
  obtain ⟨⟨bf, bs, bp⟩, c0, ⟨fz1, c1⟩, ⟨fz2, c2⟩, hst, hsh, hij⟩ := id hF
  have n1 := hF.nms c1 (by decide)
  rw [e2]
  refine ⟨hB _ bs n1, ⟨fz1, (F _ bs n1).trans c1⟩, fun k k0 k1 => ?_⟩
  obtain ⟨q, fs, g, b, c, e⟩ := hst k k0 k1
  have n2 := hF.nms c (by decide)
  have w := es k k0 k1
  exact ⟨q, fs, g, hB _ b n2, (F _ b n2).trans c, by rw [w.1, w.2.1, w.2.2]; exact e⟩
/-- shapes copied so far -/
def CPS (h hh : AH) (gp gk : Int → Option Nat) (k : Int) : Prop := (∀ p, 0 ≤ p → p < k → ∃ a ca z, ∃ ow cl : Int, gp p = some a ∧ h.1 a = some (11, 3, am_L [ow, cl, 0], am_G [none, none, some ca]) ∧ gk p = some z ∧ FR h hh z ∧ hh.1 z = some (11, 3, am_L [ow, cl, 0], am_G [none, none, some ca])) ∧ ∀ p q, 0 ≤ p → p < k → 0 ≤ q → q < k → gk p = gk q → p = q
theorem CPS.st {h hh h3 : AH} {gp gk : Int → Option Nat} {k : Int} (hC : CPS h hh gp gk k) {t : Nat} {nn : Int} {fz : Int → Int} {fg : Int → Option Nat} (ct : hh.1 t = some (106, nn, fz, fg)) (F : ∀ q, q < hh.2.1 → q ≠ t → h3.1 q = hh.1 q) (ht : hh.2.1 ≤ h3.2.1) (h0 : h.2.1 ≤ hh.2.1) {a ca z : Nat} {ow cl : Int} (ga : gp k = some a) (ha : h.1 a = some (11, 3, am_L [ow, cl, 0], am_G [none, none, some ca])) (hz : hh.2.1 ≤ z ∧ z < h3.2.1) (cz : h3.1 z = some (11, 3, am_L [ow, cl, 0], am_G [none, none, some ca])) : CPS h h3 gp (am_uR gk k (some z)) (k + 1) := by
  have old : ∀ p, 0 ≤ p → p < k → ∃ a ca z, ∃ ow cl : Int, gp p = some a ∧ h.1 a = some (11, 3, am_L [ow, cl, 0], am_G [none, none, some ca]) ∧ gk p = some z ∧ (FR h hh z) ∧ hh.1 z = some (11, 3, am_L [ow, cl, 0], am_G [none, none, some ca]) := hC.1
  have u : ∀ p, p < k → am_uR gk k (some z) p = gk p := fun p h => by unfold am_uR; rw [if_neg (by omega)]
  have uk : am_uR gk k (some z) k = some z := by unfold am_uR; rw [if_pos rfl]
  have ne : ∀ p, 0 ≤ p → p < k → gk p ≠ some z := fun p p0 p1 e => by
    obtain ⟨a, ca, z', ow, cl, -, -, g, ⟨f1, f2⟩, -⟩ := old p p0 p1
    rw [e] at g; cases g; omega
  refine ⟨fun p p0 p1 => ?_, fun p q p0 p1 q0 q1 e => ?_⟩
  · by_cases c : p = k
    · subst c
      exact ⟨a, ca, z, ow, cl, ga, ha, uk, ⟨by omega, hz.2⟩, cz⟩
    · obtain ⟨a, ca, z', ow, cl, g1, g2, g3, ⟨f1, f2⟩, g4⟩ := old p p0 (by omega)
      have nt : z' ≠ t := fun e => by rw [e, ct] at g4; cases g4
      exact ⟨a, ca, z', ow, cl, g1, g2, (u p (by omega)).trans g3, ⟨f1, by omega⟩, (F _ f2 nt).trans g4⟩
  · by_cases c : p = k
    · by_cases d : q = k
      · omega
      · subst c
        rw [uk, u q (by omega)] at e
        exact absurd e.symm (ne q q0 (by omega))
    · by_cases d : q = k
      · subst d
        rw [uk, u p (by omega)] at e
        exact absurd e (ne p p0 (by omega))
      · rw [u p (by omega), u q (by omega)] at e
        exact hC.2 p q p0 (by omega) q0 (by omega) e
theorem FLD.cp {h hh : AH} {B : Nat → Prop} {f sa pa : Nat} {gs gp : Int → Option Nat} {T : Option Nat} {D : Int → Int} (hF : FLD h B f sa pa gs gp T D) (hb : ∀ q, B q → q < h.2.1) (F : ∀ q, q < h.2.1 → hh.1 q = h.1 q) {f' t : Nat} {gk : Int → Option Nat} {fz : Int → Int} (cf : hh.1 f' = some (8, 5, am_L [D 0, D 1, 0, 0, 0], am_G [none, none, some sa, some t, T])) (ct : hh.1 t = some (106, D 3, fz, gk)) (f1 : FR h hh f') (f2 : FR h hh t) (hC : CPS h hh gp gk (D 3)) : FLD hh (fun q => (B q ∧ ¬ MS f gp (D 3) q) ∨ FR h hh q) f' sa t gs gk T D := by
  obtain ⟨s1, s2, s3⟩ := hF.stn (h1 := hh) (B1 := fun q => (B q ∧ ¬ MS f gp (D 3) q) ∨ FR h hh q) rfl (fun k _ _ => ⟨rfl, rfl, rfl⟩) (fun q b _ => F q (hb q b)) (fun q b n => Or.inl ⟨b, n⟩)
  refine ⟨⟨Or.inr f1, s1, Or.inr f2⟩, cf, s2, ⟨fz, ct⟩, s3, fun p p0 p1 => ?_, hC.2⟩
  obtain ⟨a, ca, z, ow, cl, g1, g2, g3, g4, g5⟩ := hC.1 p p0 p1
  obtain ⟨q, g, ca', c, ⟨b1, b2⟩, c3, c4, hx⟩ := hF.2.2.2.2.2.1 p p0 p1
  rw [g] at g1
  cases g1
  rw [c3] at g2
  have e := Option.some.inj g2
  have e1 : am_L [pO D p, pC D p, 0] = am_L [ow, cl, 0] := congrArg (fun x => x.2.2.1) e
  have e2 : am_G [none, none, some ca'] = am_G [none, none, some ca] := congrArg (fun x => x.2.2.2) e
  have o1 : pO D p = ow := congrFun e1 0
  have o2 : pC D p = cl := congrFun e1 1
  have o3 : ca' = ca := Option.some.inj (congrFun e2 2)
  subst o1 o2 o3
  exact ⟨z, g3, ca', c, ⟨Or.inr g4, Or.inl ⟨b2, hF.nms c4 (by decide)⟩⟩, g5, (F _ (hb _ b2)).trans c4, hx⟩
/-- a field with other shapes, some of them as they were -/
theorem FLD.ch {h h1 : AH} {B : Nat → Prop} {f sa pa : Nat} {gs gp : Int → Option Nat} {T : Option Nat} {D E : Int → Int} (hF : FLD h B f sa pa gs gp T D) (hb : ∀ q, B q → q < h.2.1) (F : ∀ q, q < h.2.1 → q ≠ f → h1.1 q = h.1 q) (ht : h.2.1 ≤ h1.2.1) {t : Nat} {gk : Int → Option Nat} {fz : Int → Int} (e0 : E 0 = D 0) (e1 : E 1 = D 1) (e2 : E 2 = D 2) (es : ∀ k, 0 ≤ k → k < D 2 → sX E k = sX D k ∧ sY E k = sY D k ∧ sV E k = sV D k) (cf : h1.1 f = some (8, 5, am_L [D 0, D 1, 0, 0, 0], am_G [none, none, some sa, some t, T])) (ct : h1.1 t = some (106, E 3, fz, gk)) (ft : FR h h1 t) (φ : Int → Int)
    (hp : ∀ p, 0 ≤ p → p < E 3 → (0 ≤ φ p ∧ φ p < D 3 ∧ gk p = gp (φ p) ∧ pN E p = pN D (φ p) ∧ pC E p = pC D (φ p) ∧ pO E p = pO D (φ p) ∧ ∀ k, 0 ≤ k → k < pN D (φ p) → pX E p k = pX D (φ p) k ∧ pY E p k = pY D (φ p) k) ∨ ∃ q, gk p = some q ∧ h.2.1 ≤ q ∧ LSH h1 (fun q => B q ∨ FR h h1 q) q (pN E p) (pC E p) (pO E p) (pX E p) (pY E p))
    (hi : ∀ p q, 0 ≤ p → p < E 3 → 0 ≤ q → q < E 3 → gk p = gk q → p = q) : FLD h1 (fun q => B q ∨ FR h h1 q) f sa t gs gk T E := by
  obtain ⟨s1, s2, s3⟩ := hF.stn (h1 := h1) (B1 := fun q => B q ∨ FR h h1 q) e2 es (fun q b n => F q (hb q b) (fun c => n (Or.inl c))) (fun q b _ => Or.inl b)
  obtain ⟨⟨bf, bs, bp⟩, c0, -, -, -, hsh, -⟩ := id hF
  refine ⟨⟨Or.inl bf, s1, Or.inr ft⟩, by rw [e0, e1]; exact cf, s2, ⟨fz, ct⟩, s3, fun p p0 p1 => ?_, hi⟩
  rcases hp p p0 p1 with ⟨a0, a1, a2, a3, a4, a5, a6⟩ | ⟨q, g, -, l⟩
  · obtain ⟨q, g, l⟩ := hsh _ a0 a1
    refine ⟨q, a2.trans g, ?_⟩
    rw [a3, a4, a5]
    exact (l.mv c0 (by decide) (fun q b n => F q (hb q b) n) (fun q b => Or.inl b)).sm a6
  · exact ⟨q, g, l⟩
theorem FLD.stP {h h1 : AH} {B : Nat → Prop} {f sa pa : Nat} {gs gp : Int → Option Nat} {T : Option Nat} {D : Int → Int} (hF : FLD h B f sa pa gs gp T D) (hD : VD D) (hb : ∀ q, B q → q < h.2.1) (F : ∀ q, q < h.2.1 → q ≠ f → h1.1 q = h.1 q) (ht : h.2.1 ≤ h1.2.1) {t t2 t5 : Nat} {o x y : Int} {gk : Int → Option Nat} {fz c5 : Int → Int} (cf : h1.1 f = some (8, 5, am_L [D 0, D 1, 0, 0, 0], am_G [none, none, some sa, some t, T])) (ct : h1.1 t = some (106, D 3 + 1, fz, gk)) (hg : ∀ p, 0 ≤ p → p < D 3 → gk p = gp p) (h9 : gk (D 3) = some t2) (k2 : h1.1 t2 = some (11, 3, am_L [o, 0, 0], am_G [none, none, some t5])) (k5 : h1.1 t5 = some (100, 1, c5, am_N)) (e5 : c5 0 = 100 * x + y) (f1 : FR h h1 t) (f2 : FR h h1 t2) (f5 : FR h h1 t5) : FLD h1 (fun q => B q ∨ FR h h1 q) f sa t gs gk T (gm_stP D o x y) := by
  have d3 := hD.2.2.2.1
  have d2 := hD.2.2.1
  have e : ∀ i : Int, i ≠ 3 → ¬ (66 + 27 * D 3 ≤ i ∧ i ≤ 70 + 27 * D 3) → gm_stP D o x y i = D i := fun i h1 h2 => gm_stP_o h1 h2
  have e3 : gm_stP D o x y 3 = D 3 + 1 := gm_stP_3
  obtain ⟨u0, u1, u2, u3, u4⟩ := gm_stP_p (o := o) (x := x) (y := y) d3.1
  have nn : ∀ p, 0 ≤ p → p < D 3 → gk p ≠ some t2 := fun p p0 p1 q => by
    obtain ⟨a, g, ca, c, ⟨b1, b2⟩, -⟩ := hF.2.2.2.2.2.1 p p0 p1
    rw [hg p p0 p1, g] at q
    cases q
    have := hb _ b1
    have := f2.1
    omega
  refine hF.ch hb F ht (e 0 (by omega) (by omega)) (e 1 (by omega) (by omega)) (e 2 (by omega) (by omega)) (fun k k0 k1 => ⟨e _ (by omega) (by omega), e _ (by omega) (by omega), e _ (by omega) (by omega)⟩) cf (by rw [e3]; exact ct) f1 (fun p => p) (fun p p0 p1 => ?_) (fun p q p0 p1 q0 q1 w => ?_)
  · rw [e3] at p1
    by_cases c : p = D 3
    · subst c
      rw [u0, u1, u2]
      refine Or.inr ⟨t2, h9, f2.1, t5, c5, ⟨Or.inr f2, Or.inr f5⟩, k2, k5, fun k k0 k1 => ?_⟩
      obtain rfl : k = 0 := by omega
      rw [u3, u4]
      exact e5
    · have v := (hD.2.2.2.2.2 p p0 (by omega)).2.1
      exact Or.inl ⟨p0, by omega, hg p p0 (by omega), e _ (by omega) (by omega), e _ (by omega) (by omega), e _ (by omega) (by omega), fun k k0 k1 => ⟨e _ (by omega) (by omega), e _ (by omega) (by omega)⟩⟩
  · rw [e3] at p1 q1
    by_cases c : p = D 3
    · by_cases d : q = D 3
      · omega
      · subst c
        rw [h9] at w
        exact absurd w.symm (nn q q0 (by omega))
    · by_cases d : q = D 3
      · subst d
        rw [h9] at w
        exact absurd w (nn p p0 (by omega))
      · rw [hg p p0 (by omega), hg q q0 (by omega)] at w
        exact hF.2.2.2.2.2.2 p q p0 (by omega) q0 (by omega) w
theorem FLD.drP {h h1 : AH} {B : Nat → Prop} {f sa pa : Nat} {gs gp : Int → Option Nat} {T : Option Nat} {D : Int → Int} (hF : FLD h B f sa pa gs gp T D) (hD : VD D) (hb : ∀ q, B q → q < h.2.1) (F : ∀ q, q < h.2.1 → q ≠ f → h1.1 q = h.1 q) (ht : h.2.1 ≤ h1.2.1) {t : Nat} {p : Int} (p0 : 0 ≤ p) (p1 : p < D 3) {gk : Int → Option Nat} {fz : Int → Int} (cf : h1.1 f = some (8, 5, am_L [D 0, D 1, 0, 0, 0], am_G [none, none, some sa, some t, T])) (ct : h1.1 t = some (106, D 3 - 1, fz, gk)) (hg : ∀ q, 0 ≤ q → q < D 3 - 1 → gk q = gp (if q < p then q else q + 1)) (f1 : FR h h1 t) : FLD h1 (fun q => B q ∨ FR h h1 q) f sa t gs gk T (gm_drP D p) := by
  have d3 := hD.2.2.2.1
  have d2 := hD.2.2.1
  have e3 : gm_drP D p 3 = D 3 - 1 := if_pos rfl
  have lo : ∀ i, i ≠ 3 → i < 66 + 27 * p → gm_drP D p i = D i := fun i a b => by unfold gm_drP; rw [if_neg a, if_neg (by omega)]
  have hi : ∀ i, 66 + 27 * p ≤ i → i < 228 → gm_drP D p i = D (i + 27) := fun i a b => by unfold gm_drP; rw [if_neg (by omega), if_pos (by omega)]
  refine hF.ch hb F ht (lo 0 (by omega) (by omega)) (lo 1 (by omega) (by omega)) (lo 2 (by omega) (by omega)) (fun k k0 k1 => ⟨lo _ (by omega) (by omega), lo _ (by omega) (by omega), lo _ (by omega) (by omega)⟩) cf (by rw [e3]; exact ct) f1 (fun q => if q < p then q else q + 1) (fun q q0 q1 => Or.inl ?_) (fun q r q0 q1 r0 r1 w => ?_)
  · rw [e3] at q1
    have g := hg q q0 q1
    by_cases c : q < p
    · have v := (hD.2.2.2.2.2 q q0 (by omega)).2.1
      rw [if_pos c] at g ⊢
      exact ⟨q0, by omega, g, lo _ (by omega) (by omega), lo _ (by omega) (by omega), lo _ (by omega) (by omega), fun k k0 k1 => ⟨lo _ (by omega) (by omega), lo _ (by omega) (by omega)⟩⟩
    · have v := (hD.2.2.2.2.2 (q + 1) (by omega) (by omega)).2.1
      rw [if_neg c] at g ⊢
      have t : ∀ b : Int, 66 ≤ b → b ≤ 92 → gm_drP D p (b + 27 * q) = D (b + 27 * (q + 1)) := fun b b0 b1 => by
        rw [hi _ (by omega) (by omega)]
        congr 1
        omega
      refine ⟨by omega, by omega, g, t _ (by omega) (by omega), t _ (by omega) (by omega), t _ (by omega) (by omega), fun k k0 k1 => ⟨?_, ?_⟩⟩
      · exact (congrArg (gm_drP D p) (show 69 + 27 * q + 2 * k = (69 + 2 * k) + 27 * q by omega)).trans ((t _ (by omega) (by omega)).trans (congrArg D (show 69 + 2 * k + 27 * (q + 1) = 69 + 27 * (q + 1) + 2 * k by omega)))
      · exact (congrArg (gm_drP D p) (show 70 + 27 * q + 2 * k = (70 + 2 * k) + 27 * q by omega)).trans ((t _ (by omega) (by omega)).trans (congrArg D (show 70 + 2 * k + 27 * (q + 1) = 70 + 27 * (q + 1) + 2 * k by omega)))
  · rw [e3] at q1 r1
    rw [hg q q0 q1, hg r r0 r1] at w
    have := hF.2.2.2.2.2.2 _ _ (by split <;> omega) (by split <;> omega) (by split <;> omega) (by split <;> omega) w
    split at this <;> split at this <;> omega

set_option maxRecDepth 4000 in
set_option maxHeartbeats 4000000 in
theorem c_X9_copy {w : am_w} {h : AH} {B : Nat → Prop} {f sa pa : Nat} {gs gp : Int → Option Nat} {T : Option Nat} {D : Int → Int} (hF : FLD h B f sa pa gs gp T D) (hD : VD D) (hb : ∀ q, B q → q < h.2.1)  : AE w m_X9_copy 5 [vr f] h (am_ref (fun q h1 => FR h h1 q ∧ (∃ t gk, FLD h1 (fun q => (B q ∧ ¬ MS f gp (D 3) q) ∨ FR h h1 q) q sa t gs gk T D ∧ ∀ p, 0 ≤ p → p < D 3 → ∃ z, gk p = some z ∧ h.2.1 ≤ z) ∧ KF h h1 NO 16 30)) := by
  refine AE.of wf_X9_copy (Nat.le_of_ble_eq_true rfl) (am_ok_r) ?_
  obtain ⟨⟨bf, bs, bp⟩, C0, ⟨fz1, C1⟩, ⟨fz2, C2⟩, hst, hsh, hij⟩ := id hF
  have d0 := hD.1
  have d1 := hD.2.1
  have d2 := hD.2.2.1
  have d3 := hD.2.2.2.1
  have hf := hb _ bf
  have hsa := hb _ bs
  have hpa := hb _ bp
  have nfp : f ≠ pa := fun e => by rw [e, C2] at C0; cases C0
  obtain ⟨t1, e3t⟩ : ∃ q : Nat, h.2.1 = q := ⟨_, rfl⟩
  refine q_no (ci := 8) e3t eX9_copy_0 rfl (am_gw 496 (by decide +kernel) (by decide +kernel)) (am_gw 462 (by decide +kernel) (by decide +kernel)) in_RX9 (fun h2 e3c e3f e3z => ?_)
  have k4 := (e3f f (by omega)).trans C0
  have k5 := (e3f pa (by omega)).trans C2
  have e3u : h2.2.1 = t1 + 1 := by rw [e3z]
  have e3v : h2.2.2 = h.2.2 + 5 := by rw [e3z]
  have F6 : ∀ q, q < h.2.1 → ¬ NO q → h2.1 q = h.1 q := fun q q0 q1 => (e3f q (by omega)).trans ((fun _ _ _ => rfl) q q0 q1)
  refine q_blk (lv2 := [(0, vr f)]) (st2 := [vr t1, vr t1]) kX9_copy_3 rfl ?_
  refine AQ.callIv (av := []) (st := [vr t1]) (c_X9_init e3c (by omega)) lk_RX9_28 (by decide) rfl rfl (Nat.le_of_ble_eq_true rfl) eX9_copy_4 (fun h9 e8 => ?_)
  obtain ⟨⟨t10, t10x, t10f, t10g, ⟨t10a, t10b⟩, ⟨t10c, t10d⟩, t10p, t10q, t10r⟩, g11f, ⟨g11a, g11b⟩, g11c, g11d⟩ := e8
  have k12 := (g11f f (by omega) (by show ¬ _ = _; omega)).trans k4
  have k13 := (g11f pa (by omega) (by show ¬ _ = _; omega)).trans k5
  have F14 : ∀ q, q < h.2.1 → ¬ NO q → h9.1 q = h.1 q := fun q q0 q1 => (g11f q (by omega) (by show ¬ _ = _; omega)).trans (F6 q q0 q1)
  refine q_blk (lv2 := [(0, vr f), (1, vr t1)]) (st2 := [vr f, vr t1]) kX9_copy_7 rfl ?_
  refine q_gi eX9_copy_10 fl_RX9_7 (Or.inl rfl) k12 (z := (D 0)) rfl ?_
  refine q_pi eX9_copy_13 fl_RX9_7 (fun q hq => by cases hq; exact Or.inl rfl) (Or.inl rfl) t10p (Nat.le_of_ble_eq_true rfl) (l2 := [(D 0), 2, 0, 0, 0]) rfl (fun h15 e16 => ?_)
  have k17 := (am_ne e16 f (by omega)).trans k12
  have k18 := (am_ne e16 pa (by omega)).trans k13
  have k19 := am_at e16
  have k20 := (am_ne e16 t10 (by omega)).trans t10q
  have k21 := (am_ne e16 t10x (by omega)).trans t10r
  have e16u : h15.2.1 = h9.2.1 := congrArg Prod.fst (am_z e16)
  have e16v : h15.2.2 = h9.2.2 := congrArg Prod.snd (am_z e16)
  have F22 : ∀ q, q < h.2.1 → ¬ NO q → h15.1 q = h.1 q := fun q q0 q1 => (am_ne e16 q (by omega)).trans (F14 q q0 q1)
  refine q_blk (lv2 := [(0, vr f), (1, vr t1)]) (st2 := [vr f, vr t1]) kX9_copy_16 rfl ?_
  refine q_gi eX9_copy_18 fl_RX9_13 (Or.inl rfl) k17 (z := (D 1)) rfl ?_
  refine q_pi eX9_copy_21 fl_RX9_13 (fun q hq => by cases hq; exact Or.inl rfl) (Or.inl rfl) k19 (Nat.le_of_ble_eq_true rfl) (l2 := [(D 0), (D 1), 0, 0, 0]) rfl (fun h23 e24 => ?_)
  have k25 := (am_ne e24 f (by omega)).trans k17
  have k26 := (am_ne e24 pa (by omega)).trans k18
  have k27 := am_at e24
  have k28 := (am_ne e24 t10 (by omega)).trans k20
  have k29 := (am_ne e24 t10x (by omega)).trans k21
  have e24u : h23.2.1 = h15.2.1 := congrArg Prod.fst (am_z e24)
  have e24v : h23.2.2 = h15.2.2 := congrArg Prod.snd (am_z e24)
  have F30 : ∀ q, q < h.2.1 → ¬ NO q → h23.1 q = h.1 q := fun q q0 q1 => (am_ne e24 q (by omega)).trans (F22 q q0 q1)
  refine q_blk (lv2 := [(0, vr f), (1, vr t1)]) (st2 := [vr f, vr t1]) kX9_copy_24 rfl ?_
  refine q_gr eX9_copy_26 fl_RX9_18 (Or.inr ⟨_, rfl⟩) k25 rfl ?_
  refine q_pr eX9_copy_29 fl_RX9_18 (fun q hq => by cases hq; exact Or.inl rfl) (Or.inr ⟨_, rfl⟩) k27 (Nat.le_of_ble_eq_true rfl) (l2 := [none, none, some sa, some t10x, none]) rfl (fun h31 e32 => ?_)
  have k33 := (am_ne e32 f (by omega)).trans k25
  have k34 := (am_ne e32 pa (by omega)).trans k26
  have k35 := am_at e32
  have k36 := (am_ne e32 t10 (by omega)).trans k28
  have k37 := (am_ne e32 t10x (by omega)).trans k29
  have e32u : h31.2.1 = h23.2.1 := congrArg Prod.fst (am_z e32)
  have e32v : h31.2.2 = h23.2.2 := congrArg Prod.snd (am_z e32)
  have F38 : ∀ q, q < h.2.1 → ¬ NO q → h31.1 q = h.1 q := fun q q0 q1 => (am_ne e32 q (by omega)).trans (F30 q q0 q1)
  refine q_blk (lv2 := [(0, vr f), (1, vr t1)]) (st2 := [vr f, vr t1]) kX9_copy_32 rfl ?_
  refine q_gn eX9_copy_34 fl_RX9_29 (Or.inl ⟨_, rfl⟩) k33 (r := T) rfl ?_
  refine q_pn eX9_copy_37 fl_RX9_29 (fun q hq => by cases hq; exact Or.inl rfl) (Or.inl ⟨_, rfl⟩) k35 (Nat.le_of_ble_eq_true rfl) (l2 := [none, none, some sa, some t10x, T]) rfl (fun h39 e40 => ?_)
  have k41 := (am_ne e40 f (by omega)).trans k33
  have k42 := (am_ne e40 pa (by omega)).trans k34
  have k43 := am_at e40
  have k44 := (am_ne e40 t10 (by omega)).trans k36
  have k45 := (am_ne e40 t10x (by omega)).trans k37
  have e40u : h39.2.1 = h31.2.1 := congrArg Prod.fst (am_z e40)
  have e40v : h39.2.2 = h31.2.2 := congrArg Prod.snd (am_z e40)
  have F46 : ∀ q, q < h.2.1 → ¬ NO q → h39.1 q = h.1 q := fun q q0 q1 => (am_ne e40 q (by omega)).trans (F38 q q0 q1)
  refine q_blk (lv2 := [(0, vr f), (1, vr t1)]) (st2 := [vr f, vr t1]) kX9_copy_40 rfl ?_
  refine q_gr eX9_copy_42 fl_RX9_24 (Or.inr ⟨_, rfl⟩) k41 rfl ?_
  refine q_al eX9_copy_45 k42 (by decide) ?_
  obtain ⟨t47, e49t⟩ : ∃ q : Nat, h39.2.1 = q := ⟨_, rfl⟩
  refine q_nR (k := 106) ((D 3).toNat) rfl e49t eX9_copy_46 (Or.inr (Or.inr (Or.inl ⟨rfl, rfl⟩))) (am_gw 469 (by decide +kernel) (by decide +kernel)) (by omega) (by omega) (fun h48 e49c e49f e49z => ?_)
  have k50 := (e49f f (by omega)).trans k41
  have k51 := (e49f pa (by omega)).trans k42
  have k52 := (e49f t1 (by omega)).trans k43
  have k53 := (e49f t10 (by omega)).trans k44
  have k54 := (e49f t10x (by omega)).trans k45
  have e49u : h48.2.1 = t47 + 1 := by rw [e49z]
  have e49v : h48.2.2 = h39.2.2 + ((D 3).toNat) := by rw [e49z]
  have F55 : ∀ q, q < h.2.1 → ¬ NO q → h48.1 q = h.1 q := fun q q0 q1 => (e49f q (by omega)).trans (F46 q q0 q1)
  refine q_pr eX9_copy_49 fl_RX9_24 (fun q hq => by cases hq; exact Or.inl rfl) (Or.inr ⟨_, rfl⟩) k52 (Nat.le_of_ble_eq_true rfl) (l2 := [none, none, some sa, some t47, T]) rfl (fun h56 e57 => ?_)
  have k58 := (am_ne e57 f (by omega)).trans k50
  have k59 := (am_ne e57 pa (by omega)).trans k51
  have k60 := am_at e57
  have k61 := (am_ne e57 t10 (by omega)).trans k53
  have k62 := (am_ne e57 t10x (by omega)).trans k54
  have k63 := (am_ne e57 t47 (by omega)).trans e49c
  have e57u : h56.2.1 = h48.2.1 := congrArg Prod.fst (am_z e57)
  have e57v : h56.2.2 = h48.2.2 := congrArg Prod.snd (am_z e57)
  have F64 : ∀ q, q < h.2.1 → ¬ NO q → h56.1 q = h.1 q := fun q q0 q1 => (am_ne e57 q (by omega)).trans (F55 q q0 q1)
  refine q_blk (lv2 := [(0, vr f), (1, vr t1), (2, vi 0)]) (st2 := []) kX9_copy_52 rfl ?_
  refine am_lp3 (I := fun (k : Int) (hh : AH) (gk : Int → Option Nat) => (0 ≤ k ∧ k ≤ D 3) ∧ hh.1 t1 = some (8, 5, am_L [D 0, D 1, 0, 0, 0], am_G [none, none, some sa, some t47, T]) ∧ hh.1 t47 = some (106, D 3, am_Z, gk) ∧ t47 < hh.2.1 ∧ CPS h hh gp gk k ∧ KF h hh NO (4 + 2 * k.toNat) (11 + 3 * k.toNat)) (μ := fun (k : Int) (hh : AH) (gk : Int → Option Nat) => (D 3 - k).toNat) (G := fun (k : Int) (hh : AH) (gk : Int → Option Nat) => AQ w m_X9_copy 5 54 [(0, vr f), (1, vr t1), (2, vi k)] [] hh (am_ref (fun q h1 => FR h h1 q ∧ (∃ t gk, FLD h1 (fun q => (B q ∧ ¬ MS f gp (D 3) q) ∨ FR h h1 q) q sa t gs gk T D ∧ ∀ p, 0 ≤ p → p < D 3 → ∃ z, gk p = some z ∧ h.2.1 ≤ z) ∧ KF h h1 NO 16 30))) ?_ 0 h56 am_N (⟨⟨by omega, by omega⟩, k60, k63, by omega, ⟨fun p p0 p1 => by omega, fun p q p0 p1 => by omega⟩, ⟨F64, ⟨by omega, by omega⟩, by omega, by omega⟩⟩)
  intro k hh gk hI66 ih65
  obtain ⟨⟨k0, k1⟩, kt1, kta, tt, hC, kfF, ⟨kfa, kfb⟩, kfc, kfd⟩ := hI66
  have ko := (kfF f hf id).trans C0
  have kp := (kfF pa hpa id).trans C2
  refine q_blk (lv2 := [(0, vr f), (1, vr t1), (2, vi k)]) (st2 := [vr f, vi k]) kX9_copy_54 rfl ?_
  refine q_gr eX9_copy_56 fl_RX9_24 (Or.inr ⟨_, rfl⟩) ko rfl ?_
  refine q_al eX9_copy_59 kp (by decide) ?_
  refine AQ.ic_ge (tgt := 84) eX9_copy_60 (by decide) (by first | assumption | exact ⟨by omega, by omega⟩) (by first | assumption | exact ⟨by omega, by omega⟩) (fun br67 => ?_) (fun br67 => ?_)
  · skip
    refine q_blk (lv2 := [(0, vr f), (1, vr t1), (2, vi k)]) (st2 := [vr t1]) kX9_copy_84 rfl ?_
    exact q_ra rfl eX9_copy_85 ⟨t1, rfl, ⟨by omega, by omega⟩, ⟨t47, gk, hF.cp hb (fun q q0 => kfF q q0 id) kt1 kta ⟨by omega, by omega⟩ ⟨by omega, by omega⟩ (by rw [show D 3 = k by omega]; exact hC), fun p p0 p1 => by
    obtain ⟨a, ca, z, ow, cl, g1, g2, g3, g4, g5⟩ := hC.1 p p0 (by omega)
    exact ⟨z, g3, g4.1⟩⟩, kfF, ⟨by omega, by omega⟩, by omega, by omega⟩
  · skip
    refine q_blk (lv2 := [(0, vr f), (1, vr t1), (2, vi k)]) (st2 := [vr t1]) kX9_copy_63 rfl ?_
    refine q_gr eX9_copy_64 fl_RX9_24 (Or.inr ⟨_, rfl⟩) kt1 rfl ?_
    refine q_blk (lv2 := [(0, vr f), (1, vr t1), (2, vi k)]) (st2 := [vr f, vi k, vr t47]) kX9_copy_67 rfl ?_
    refine q_gr eX9_copy_69 fl_RX9_24 (Or.inr ⟨_, rfl⟩) ko rfl ?_
    refine q_blk (lv2 := [(0, vr f), (1, vr t1), (2, vi k)]) (st2 := [vi k, vr pa, vi k, vr t47]) kX9_copy_72 rfl ?_
    obtain ⟨q68, g68, l68⟩ := hsh k (by omega) (by omega)
    obtain ⟨ca68, cf68, ⟨w68, u68⟩, c68, d68, e68⟩ := id l68
    obtain ⟨⟨o68, o68'⟩, ⟨n68, n68'⟩, cc68, xy68⟩ := hD.2.2.2.2.2 k (by omega) (by omega)
    have b68 := hb _ w68
    have m68 := (kfF _ b68 id).trans c68
    refine q_aa eX9_copy_73 kp (by decide) (by omega) (by omega) g68 ?_
    refine AQ.callVr (av := []) (st := [vi k, vr t47]) (c_X12_copy m68 (by omega) (by omega)) lk_RX9_33 (by decide) rfl rfl ⟨_, _, _, m68⟩ ⟨_, rfl, rfl⟩ (Nat.le_of_ble_eq_true rfl) eX9_copy_74 (fun z69 h71 e70 => ?_)
    obtain ⟨⟨z69a, z69b⟩, z69c, g72f, ⟨g72a, g72b⟩, g72c, g72d⟩ := e70
    have k73 := (g72f f (by omega) (fun x => x)).trans ko
    have k74 := (g72f pa (by omega) (fun x => x)).trans kp
    have k75 := (g72f t1 (by omega) (fun x => x)).trans kt1
    have k76 := (g72f t47 (by omega) (fun x => x)).trans kta
    have k77 := (g72f q68 (by omega) (fun x => x)).trans m68
    have F78 : ∀ q, q < h.2.1 → ¬ NO q → h71.1 q = h.1 q := fun q q0 q1 => (g72f q (by omega) (fun x => x)).trans (kfF q q0 q1)
    refine q_as eX9_copy_77 (Or.inr (Or.inr (Or.inl ⟨rfl, rfl⟩))) k76 (by omega) (by omega) z69c (fun h79 e80 => ?_)
    have k81 := (am_ne e80 f (by omega)).trans k73
    have k82 := (am_ne e80 pa (by omega)).trans k74
    have k83 := (am_ne e80 t1 (by omega)).trans k75
    have k84 := am_at e80
    have k85 := (am_ne e80 q68 (by omega)).trans k77
    have k86 := (am_ne e80 z69 (by omega)).trans z69c
    have e80u : h79.2.1 = h71.2.1 := congrArg Prod.fst (am_z e80)
    have e80v : h79.2.2 = h71.2.2 := congrArg Prod.snd (am_z e80)
    have F87 : ∀ q, q < h.2.1 → ¬ NO q → h79.1 q = h.1 q := fun q q0 q1 => (am_ne e80 q (by omega)).trans (F78 q q0 q1)
    refine q_blk (lv2 := [(0, vr f), (1, vr t1), (2, vi (k + 1))]) (st2 := []) kX9_copy_78 rfl ?_
    refine q_goto (tgt := 54) eX9_copy_81 (by decide) ?_
    exact ih65 (k + 1) h79 (am_uR gk k (some z69)) (⟨⟨by omega, by omega⟩, k83, k84, by omega, (hC.st kta (fun q q0 q1 => (am_ne e80 q q1).trans (g72f q q0 id)) (by omega) (by omega) g68 c68 ⟨by omega, by omega⟩ k86), ⟨F87, ⟨by omega, by omega⟩, by omega, by omega⟩⟩) (by omega)

set_option maxRecDepth 4000 in
set_option maxHeartbeats 4000000 in
theorem c_X9_add {w : am_w} {h : AH} {B : Nat → Prop} {f sa pa : Nat} {gs gp : Int → Option Nat} {T : Option Nat} {D : Int → Int} (hF : FLD h B f sa pa gs gp T D) (hD : VD D) (hD3 : D 3 < 6) {o x y : Int} (hxx : am_c x) (hyy : am_c y) (hb : ∀ q, B q → q < h.2.1)  : AE w m_X9_add 4 [vr f, vi o, vi x, vi y] h (am_unit (fun h1 => (∃ t gk z, FLD h1 (fun q => B q ∨ FR h h1 q) f sa t gs gk T (gm_stP D o x y) ∧ (∀ p, 0 ≤ p → p < D 3 → gk p = gp p) ∧ gk (D 3) = some z ∧ h.2.1 ≤ z) ∧ KF h h1 (fun q => q = f) 4 11)) := by
  refine AE.of wf_X9_add (Nat.le_of_ble_eq_true rfl) (am_ok_v) ?_
  obtain ⟨⟨bf, bs, bp⟩, C0, ⟨fz1, C1⟩, ⟨fz2, C2⟩, hst, hsh, hij⟩ := id hF
  have d0 := hD.1
  have d1 := hD.2.1
  have d2 := hD.2.2.1
  have d3 := hD.2.2.2.1
  have hf := hb _ bf
  have hsa := hb _ bs
  have hpa := hb _ bp
  have nfp : f ≠ pa := fun e => by rw [e, C2] at C0; cases C0
  refine q_blk (lv2 := [(0, vr f), (1, vi o), (2, vi x), (3, vi y)]) (st2 := [vr f]) kX9_add_0 rfl ?_
  refine q_gr eX9_add_1 fl_RX9_24 (Or.inr ⟨_, rfl⟩) C0 rfl ?_
  refine q_al eX9_add_4 C2 (by decide) ?_
  refine q_blk (lv2 := [(0, vr f), (1, vi o), (2, vi x), (3, vi y)]) (st2 := [vi ((D 3) + 1)]) kX9_add_5 rfl ?_
  obtain ⟨t1, e3t⟩ : ∃ q : Nat, h.2.1 = q := ⟨_, rfl⟩
  refine q_nR (k := 106) (((D 3) + 1).toNat) rfl e3t eX9_add_7 (Or.inr (Or.inr (Or.inl ⟨rfl, rfl⟩))) (am_gw 469 (by decide +kernel) (by decide +kernel)) (by omega) (by omega) (fun h2 e3c e3f e3z => ?_)
  have k4 := (e3f f (by omega)).trans C0
  have k5 := (e3f pa (by omega)).trans C2
  have e3u : h2.2.1 = t1 + 1 := by rw [e3z]
  have e3v : h2.2.2 = h.2.2 + (((D 3) + 1).toNat) := by rw [e3z]
  have F6 : ∀ q, q < h.2.1 → ¬ NO q → h2.1 q = h.1 q := fun q q0 q1 => (e3f q (by omega)).trans ((fun _ _ _ => rfl) q q0 q1)
  refine q_blk (lv2 := [(0, vr f), (1, vi o), (2, vi x), (3, vi y), (4, vr t1), (5, vi 0)]) (st2 := []) kX9_add_10 rfl ?_
  refine am_lp3 (I := fun (k : Int) (hh : AH) (gk : Int → Option Nat) => (0 ≤ k ∧ k ≤ D 3) ∧ hh.1 t1 = some (106, D 3 + 1, am_Z, gk) ∧ t1 < hh.2.1 ∧ (∀ p, 0 ≤ p → p < k → gk p = gp p) ∧ KF h hh NO 1 7) (μ := fun (k : Int) (hh : AH) (gk : Int → Option Nat) => (D 3 - k).toNat) (G := fun (k : Int) (hh : AH) (gk : Int → Option Nat) => AQ w m_X9_add 4 15 [(0, vr f), (1, vi o), (2, vi x), (3, vi y), (4, vr t1), (5, vi k)] [] hh (am_unit (fun h1 => (∃ t gk z, FLD h1 (fun q => B q ∨ FR h h1 q) f sa t gs gk T (gm_stP D o x y) ∧ (∀ p, 0 ≤ p → p < D 3 → gk p = gp p) ∧ gk (D 3) = some z ∧ h.2.1 ≤ z) ∧ KF h h1 (fun q => q = f) 4 11))) ?_ 0 h2 am_N (⟨⟨by omega, by omega⟩, e3c, by omega, fun p p0 p1 => by omega, ⟨F6, ⟨by omega, by omega⟩, by omega, by omega⟩⟩)
  intro k hh gk hI8 ih7
  obtain ⟨⟨k0, k1⟩, kt1, tt, hg, kfF, ⟨kfa, kfb⟩, kfc, kfd⟩ := hI8
  have ko := (kfF f hf id).trans C0
  have kp := (kfF pa hpa id).trans C2
  refine q_blk (lv2 := [(0, vr f), (1, vi o), (2, vi x), (3, vi y), (4, vr t1), (5, vi k)]) (st2 := [vr f, vi k]) kX9_add_15 rfl ?_
  refine q_gr eX9_add_18 fl_RX9_24 (Or.inr ⟨_, rfl⟩) ko rfl ?_
  refine q_al eX9_add_21 kp (by decide) ?_
  refine AQ.ic_ge (tgt := 43) eX9_add_22 (by decide) (by first | assumption | exact ⟨by omega, by omega⟩) (by first | assumption | exact ⟨by omega, by omega⟩) (fun br9 => ?_) (fun br9 => ?_)
  · skip
    obtain ⟨t10, e12t⟩ : ∃ q : Nat, hh.2.1 = q := ⟨_, rfl⟩
    refine q_no (ci := 11) e12t eX9_add_43 rfl (am_gw 469 (by decide +kernel) (by decide +kernel)) (am_gw 503 (by decide +kernel) (by decide +kernel)) in_RX12 (fun h11 e12c e12f e12z => ?_)
    have k13 := (e12f f (by omega)).trans ko
    have k14 := (e12f pa (by omega)).trans kp
    have k15 := (e12f t1 (by omega)).trans kt1
    have e12u : h11.2.1 = t10 + 1 := by rw [e12z]
    have e12v : h11.2.2 = hh.2.2 + 3 := by rw [e12z]
    have F16 : ∀ q, q < h.2.1 → ¬ NO q → h11.1 q = h.1 q := fun q q0 q1 => (e12f q (by omega)).trans (kfF q q0 q1)
    refine q_blk (lv2 := [(0, vr f), (1, vi o), (2, vi x), (3, vi y), (4, vr t1), (5, vi k)]) (st2 := [vr t10, vr t10]) kX9_add_46 rfl ?_
    refine AQ.callIv (av := []) (st := [vr t10]) (c_X12_init e12c (by omega)) lk_RX9_127 (by decide) rfl rfl (Nat.le_of_ble_eq_true rfl) eX9_add_47 (fun h19 e18 => ?_)
    obtain ⟨⟨t20, t20f, ⟨t20a, t20b⟩, t20p, t20q⟩, g21f, ⟨g21a, g21b⟩, g21c, g21d⟩ := e18
    have k22 := (g21f f (by omega) (by show ¬ _ = _; omega)).trans k13
    have k23 := (g21f pa (by omega) (by show ¬ _ = _; omega)).trans k14
    have k24 := (g21f t1 (by omega) (by show ¬ _ = _; omega)).trans k15
    have F25 : ∀ q, q < h.2.1 → ¬ NO q → h19.1 q = h.1 q := fun q q0 q1 => (g21f q (by omega) (by show ¬ _ = _; omega)).trans (F16 q q0 q1)
    refine q_blk (lv2 := [(0, vr f), (1, vi o), (2, vi x), (3, vi y), (4, vr t1), (5, vr t10)]) (st2 := [vi o, vr t10]) kX9_add_50 rfl ?_
    refine q_pi eX9_add_55 fl_RX9_121 (fun q hq => by cases hq; exact Or.inl rfl) (Or.inl rfl) t20p (Nat.le_of_ble_eq_true rfl) (l2 := [o, 0, 0]) rfl (fun h26 e27 => ?_)
    have k28 := (am_ne e27 f (by omega)).trans k22
    have k29 := (am_ne e27 pa (by omega)).trans k23
    have k30 := (am_ne e27 t1 (by omega)).trans k24
    have k31 := am_at e27
    have k32 := (am_ne e27 t20 (by omega)).trans t20q
    have e27u : h26.2.1 = h19.2.1 := congrArg Prod.fst (am_z e27)
    have e27v : h26.2.2 = h19.2.2 := congrArg Prod.snd (am_z e27)
    have F33 : ∀ q, q < h.2.1 → ¬ NO q → h26.1 q = h.1 q := fun q q0 q1 => (am_ne e27 q (by omega)).trans (F25 q q0 q1)
    refine q_blk (lv2 := [(0, vr f), (1, vi o), (2, vi x), (3, vi y), (4, vr t1), (5, vr t10)]) (st2 := [vi 1, vr t10]) kX9_add_58 rfl ?_
    obtain ⟨t34, e36t⟩ : ∃ q : Nat, h26.2.1 = q := ⟨_, rfl⟩
    refine q_na (k := 100) 1 rfl e36t eX9_add_61 (Or.inl ⟨rfl, rfl⟩) (am_gw 120 (by decide +kernel) (by decide +kernel)) (by omega) (by omega) (fun h35 e36c e36f e36z => ?_)
    have k37 := (e36f f (by omega)).trans k28
    have k38 := (e36f pa (by omega)).trans k29
    have k39 := (e36f t1 (by omega)).trans k30
    have k40 := (e36f t10 (by omega)).trans k31
    have k41 := (e36f t20 (by omega)).trans k32
    have e36u : h35.2.1 = t34 + 1 := by rw [e36z]
    have e36v : h35.2.2 = h26.2.2 + 1 := by rw [e36z]
    have F42 : ∀ q, q < h.2.1 → ¬ NO q → h35.1 q = h.1 q := fun q q0 q1 => (e36f q (by omega)).trans (F33 q q0 q1)
    refine q_blk (lv2 := [(0, vr f), (1, vi o), (2, vi x), (3, vi y), (4, vr t1), (5, vr t10)]) (st2 := [vi ((100 * x) + y), vi 0, vr t34, vr t34, vr t10]) kX9_add_63 rfl ?_
    refine q_is eX9_add_71 e36c (by omega) (by omega) (fun h43 e44 => ?_)
    have k45 := (am_ne e44 f (by omega)).trans k37
    have k46 := (am_ne e44 pa (by omega)).trans k38
    have k47 := (am_ne e44 t1 (by omega)).trans k39
    have k48 := (am_ne e44 t10 (by omega)).trans k40
    have k49 := (am_ne e44 t20 (by omega)).trans k41
    have k50 := am_at e44
    have e44u : h43.2.1 = h35.2.1 := congrArg Prod.fst (am_z e44)
    have e44v : h43.2.2 = h35.2.2 := congrArg Prod.snd (am_z e44)
    have F51 : ∀ q, q < h.2.1 → ¬ NO q → h43.1 q = h.1 q := fun q q0 q1 => (am_ne e44 q (by omega)).trans (F42 q q0 q1)
    refine q_pr eX9_add_72 fl_RX9_37 (fun q hq => by cases hq; exact Or.inl rfl) (Or.inr ⟨_, rfl⟩) k48 (Nat.le_of_ble_eq_true rfl) (l2 := [none, none, some t34]) rfl (fun h52 e53 => ?_)
    have k54 := (am_ne e53 f (by omega)).trans k45
    have k55 := (am_ne e53 pa (by omega)).trans k46
    have k56 := (am_ne e53 t1 (by omega)).trans k47
    have k57 := am_at e53
    have k58 := (am_ne e53 t20 (by omega)).trans k49
    have k59 := (am_ne e53 t34 (by omega)).trans k50
    have e53u : h52.2.1 = h43.2.1 := congrArg Prod.fst (am_z e53)
    have e53v : h52.2.2 = h43.2.2 := congrArg Prod.snd (am_z e53)
    have F60 : ∀ q, q < h.2.1 → ¬ NO q → h52.1 q = h.1 q := fun q q0 q1 => (am_ne e53 q (by omega)).trans (F51 q q0 q1)
    refine q_blk (lv2 := [(0, vr f), (1, vi o), (2, vi x), (3, vi y), (4, vr t1), (5, vr t10)]) (st2 := [vr f, vr t1]) kX9_add_75 rfl ?_
    refine q_gr eX9_add_78 fl_RX9_24 (Or.inr ⟨_, rfl⟩) k54 rfl ?_
    refine q_al eX9_add_81 k55 (by decide) ?_
    refine q_blk (lv2 := [(0, vr f), (1, vi o), (2, vi x), (3, vi y), (4, vr t1), (5, vr t10)]) (st2 := [vr t10, vi (D 3), vr t1]) kX9_add_82 rfl ?_
    refine q_as eX9_add_84 (Or.inr (Or.inr (Or.inl ⟨rfl, rfl⟩))) k56 (by omega) (by omega) k57 (fun h61 e62 => ?_)
    have k63 := (am_ne e62 f (by omega)).trans k54
    have k64 := (am_ne e62 pa (by omega)).trans k55
    have k65 := am_at e62
    have k66 := (am_ne e62 t10 (by omega)).trans k57
    have k67 := (am_ne e62 t20 (by omega)).trans k58
    have k68 := (am_ne e62 t34 (by omega)).trans k59
    have e62u : h61.2.1 = h52.2.1 := congrArg Prod.fst (am_z e62)
    have e62v : h61.2.2 = h52.2.2 := congrArg Prod.snd (am_z e62)
    have F69 : ∀ q, q < h.2.1 → ¬ NO q → h61.1 q = h.1 q := fun q q0 q1 => (am_ne e62 q (by omega)).trans (F60 q q0 q1)
    refine q_blk (lv2 := [(0, vr f), (1, vi o), (2, vi x), (3, vi y), (4, vr t1), (5, vr t10)]) (st2 := [vr t1, vr f]) kX9_add_85 rfl ?_
    refine q_pr eX9_add_88 fl_RX9_24 (fun q hq => by cases hq; exact Or.inl rfl) (Or.inr ⟨_, rfl⟩) k63 (Nat.le_of_ble_eq_true rfl) (l2 := [none, none, some sa, some t1, T]) rfl (fun h70 e71 => ?_)
    have k72 := am_at e71
    have k73 := (am_ne e71 pa (by omega)).trans k64
    have k74 := (am_ne e71 t1 (by omega)).trans k65
    have k75 := (am_ne e71 t10 (by omega)).trans k66
    have k76 := (am_ne e71 t20 (by omega)).trans k67
    have k77 := (am_ne e71 t34 (by omega)).trans k68
    have e71u : h70.2.1 = h61.2.1 := congrArg Prod.fst (am_z e71)
    have e71v : h70.2.2 = h61.2.2 := congrArg Prod.snd (am_z e71)
    exact q_rv rfl eX9_add_91 ⟨rfl, ⟨t1, _, t10, hF.stP hD hb (fun q q0 q1 => (am_ne e71 q q1).trans (F69 q q0 id)) (by omega) k72 k74 (fun p p0 p1 => by unfold am_uR; rw [if_neg (by omega)]; exact hg p p0 (by omega)) (by unfold am_uR; rw [if_pos rfl]) k75 k77 (by show am_uI am_Z 0 _ 0 = _; unfold am_uI; rw [if_pos rfl]) ⟨by omega, by omega⟩ ⟨by omega, by omega⟩ ⟨by omega, by omega⟩, (fun p p0 p1 => by unfold am_uR; rw [if_neg (by omega)]; exact hg p p0 (by omega)), (by unfold am_uR; rw [if_pos rfl]), by omega⟩, fun q q0 q1 => (am_ne e71 q q1).trans (F69 q q0 id), ⟨by omega, by omega⟩, by omega, by omega⟩
  · skip
    refine q_blk (lv2 := [(0, vr f), (1, vi o), (2, vi x), (3, vi y), (4, vr t1), (5, vi k)]) (st2 := [vr f, vi k, vr t1]) kX9_add_25 rfl ?_
    refine q_gr eX9_add_30 fl_RX9_24 (Or.inr ⟨_, rfl⟩) ko rfl ?_
    refine q_blk (lv2 := [(0, vr f), (1, vi o), (2, vi x), (3, vi y), (4, vr t1), (5, vi k)]) (st2 := [vi k, vr pa, vi k, vr t1]) kX9_add_33 rfl ?_
    obtain ⟨q78, g78, l78⟩ := hsh k (by omega) (by omega)
    obtain ⟨ca78, cf78, ⟨w78, u78⟩, c78, d78, e78⟩ := id l78
    obtain ⟨⟨o78, o78'⟩, ⟨n78, n78'⟩, cc78, xy78⟩ := hD.2.2.2.2.2 k (by omega) (by omega)
    have b78 := hb _ w78
    have m78 := (kfF _ b78 id).trans c78
    refine q_aa eX9_add_35 kp (by decide) (by omega) (by omega) g78 ?_
    refine q_as eX9_add_36 (Or.inr (Or.inr (Or.inl ⟨rfl, rfl⟩))) kt1 (by omega) (by omega) m78 (fun h79 e80 => ?_)
    have k81 := (am_ne e80 f (by omega)).trans ko
    have k82 := (am_ne e80 pa (by omega)).trans kp
    have k83 := am_at e80
    have k84 := (am_ne e80 q78 (by omega)).trans m78
    have e80u : h79.2.1 = hh.2.1 := congrArg Prod.fst (am_z e80)
    have e80v : h79.2.2 = hh.2.2 := congrArg Prod.snd (am_z e80)
    have F85 : ∀ q, q < h.2.1 → ¬ NO q → h79.1 q = h.1 q := fun q q0 q1 => (am_ne e80 q (by omega)).trans (kfF q q0 q1)
    refine q_blk (lv2 := [(0, vr f), (1, vi o), (2, vi x), (3, vi y), (4, vr t1), (5, vi (k + 1))]) (st2 := []) kX9_add_37 rfl ?_
    refine q_goto (tgt := 15) eX9_add_40 (by decide) ?_
    exact ih7 (k + 1) h79 (am_uR gk k (some q78)) (⟨⟨by omega, by omega⟩, k83, by omega, (fun p p0 p1 => (show p = k ∨ p < k by omega).elim (fun e9 => by subst e9; unfold am_uR; rw [if_pos rfl]; exact g78.symm) (fun e9 => by unfold am_uR; rw [if_neg (by omega)]; exact hg p p0 e9)), ⟨F85, ⟨by omega, by omega⟩, by omega, by omega⟩⟩) (by omega)

set_option maxRecDepth 4000 in
set_option maxHeartbeats 4000000 in
theorem c_X9_remove {w : am_w} {h : AH} {B : Nat → Prop} {f sa pa : Nat} {gs gp : Int → Option Nat} {T : Option Nat} {D : Int → Int} (hF : FLD h B f sa pa gs gp T D) (hD : VD D) {p : Int} (p0 : 0 ≤ p) (p1 : p < D 3) (hb : ∀ q, B q → q < h.2.1)  : AE w m_X9_remove 4 [vr f, vi p] h (am_unit (fun h1 => (∃ t gk, FLD h1 (fun q => B q ∨ FR h h1 q) f sa t gs gk T (gm_drP D p) ∧ ∀ q, 0 ≤ q → q < D 3 - 1 → gk q = gp (if q < p then q else q + 1)) ∧ KF h h1 (fun q => q = f) 1 7)) := by
  refine AE.of wf_X9_remove (Nat.le_of_ble_eq_true rfl) (am_ok_v) ?_
  obtain ⟨⟨bf, bs, bp⟩, C0, ⟨fz1, C1⟩, ⟨fz2, C2⟩, hst, hsh, hij⟩ := id hF
  have d0 := hD.1
  have d1 := hD.2.1
  have d2 := hD.2.2.1
  have d3 := hD.2.2.2.1
  have hf := hb _ bf
  have hsa := hb _ bs
  have hpa := hb _ bp
  have nfp : f ≠ pa := fun e => by rw [e, C2] at C0; cases C0
  refine q_blk (lv2 := [(0, vr f), (1, vi p)]) (st2 := [vr f]) kX9_remove_0 rfl ?_
  refine q_gr eX9_remove_1 fl_RX9_24 (Or.inr ⟨_, rfl⟩) C0 rfl ?_
  refine q_al eX9_remove_4 C2 (by decide) ?_
  refine q_blk (lv2 := [(0, vr f), (1, vi p)]) (st2 := [vi ((D 3) - 1)]) kX9_remove_5 rfl ?_
  obtain ⟨t1, e3t⟩ : ∃ q : Nat, h.2.1 = q := ⟨_, rfl⟩
  refine q_nR (k := 106) (((D 3) - 1).toNat) rfl e3t eX9_remove_7 (Or.inr (Or.inr (Or.inl ⟨rfl, rfl⟩))) (am_gw 469 (by decide +kernel) (by decide +kernel)) (by omega) (by omega) (fun h2 e3c e3f e3z => ?_)
  have k4 := (e3f f (by omega)).trans C0
  have k5 := (e3f pa (by omega)).trans C2
  have e3u : h2.2.1 = t1 + 1 := by rw [e3z]
  have e3v : h2.2.2 = h.2.2 + (((D 3) - 1).toNat) := by rw [e3z]
  have F6 : ∀ q, q < h.2.1 → ¬ NO q → h2.1 q = h.1 q := fun q q0 q1 => (e3f q (by omega)).trans ((fun _ _ _ => rfl) q q0 q1)
  refine q_blk (lv2 := [(0, vr f), (1, vi p), (2, vr t1), (3, vi 0)]) (st2 := []) kX9_remove_10 rfl ?_
  refine am_lp3 (I := fun (k : Int) (hh : AH) (gk : Int → Option Nat) => (0 ≤ k ∧ k ≤ (D 3 - 1)) ∧ hh.1 t1 = some (106, (D 3 - 1), am_Z, gk) ∧ t1 < hh.2.1 ∧ (∀ q, 0 ≤ q → q < k → gk q = gp (if q < p then q else q + 1)) ∧ KF h hh NO 1 7) (μ := fun (k : Int) (hh : AH) (gk : Int → Option Nat) => (D 3 - 1 - k).toNat) (G := fun (k : Int) (hh : AH) (gk : Int → Option Nat) => AQ w m_X9_remove 4 13 [(0, vr f), (1, vi p), (2, vr t1), (3, vi k)] [] hh (am_unit (fun h1 => (∃ t gk, FLD h1 (fun q => B q ∨ FR h h1 q) f sa t gs gk T (gm_drP D p) ∧ ∀ q, 0 ≤ q → q < D 3 - 1 → gk q = gp (if q < p then q else q + 1)) ∧ KF h h1 (fun q => q = f) 1 7))) ?_ 0 h2 am_N (⟨⟨by omega, by omega⟩, e3c, by omega, fun q q0 q1 => by omega, ⟨F6, ⟨by omega, by omega⟩, by omega, by omega⟩⟩)
  intro k hh gk hI8 ih7
  obtain ⟨⟨k0, k1⟩, kt1, tt, hg, kfF, ⟨kfa, kfb⟩, kfc, kfd⟩ := hI8
  have ko := (kfF f hf id).trans C0
  have kp := (kfF pa hpa id).trans C2
  refine q_blk (lv2 := [(0, vr f), (1, vi p), (2, vr t1), (3, vi k)]) (st2 := [vr t1, vi k]) kX9_remove_13 rfl ?_
  refine q_al eX9_remove_15 kt1 (by decide) ?_
  refine AQ.ic_ge (tgt := 45) eX9_remove_16 (by decide) (by first | assumption | exact ⟨by omega, by omega⟩) (by first | assumption | exact ⟨by omega, by omega⟩) (fun br9 => ?_) (fun br9 => ?_)
  · skip
    refine q_blk (lv2 := [(0, vr f), (1, vi p), (2, vr t1), (3, vi k)]) (st2 := [vr t1, vr f]) kX9_remove_45 rfl ?_
    refine q_pr eX9_remove_47 fl_RX9_24 (fun q hq => by cases hq; exact Or.inl rfl) (Or.inr ⟨_, rfl⟩) ko (Nat.le_of_ble_eq_true rfl) (l2 := [none, none, some sa, some t1, T]) rfl (fun h10 e11 => ?_)
    have k12 := am_at e11
    have k13 := (am_ne e11 pa (by omega)).trans kp
    have k14 := (am_ne e11 t1 (by omega)).trans kt1
    have e11u : h10.2.1 = hh.2.1 := congrArg Prod.fst (am_z e11)
    have e11v : h10.2.2 = hh.2.2 := congrArg Prod.snd (am_z e11)
    exact q_rv rfl eX9_remove_50 ⟨rfl, ⟨t1, gk, hF.drP hD hb (fun q q0 q1 => (am_ne e11 q q1).trans (kfF q q0 id)) (by omega) p0 p1 k12 k14 (fun q q0 q1 => hg q q0 (by omega)) ⟨by omega, by omega⟩, fun q q0 q1 => hg q q0 (by omega)⟩, fun q q0 q1 => (am_ne e11 q q1).trans (kfF q q0 id), ⟨by omega, by omega⟩, by omega, by omega⟩
  · skip
    have jn37 : ∀ (u : Int), (u = if k < p then k else k + 1) → AQ w m_X9_remove 4 37 [(0, vr f), (1, vi p), (2, vr t1), (3, vi k)] [vi u, vr pa, vi k, vr t1] hh (am_unit (fun h1 => (∃ t gk, FLD h1 (fun q => B q ∨ FR h h1 q) f sa t gs gk T (gm_drP D p) ∧ ∀ q, 0 ≤ q → q < D 3 - 1 → gk q = gp (if q < p then q else q + 1)) ∧ KF h h1 (fun q => q = f) 1 7)) := by
      intro u hj
      have hu : 0 ≤ u ∧ u < D 3 := by rw [hj]; split <;> omega
      obtain ⟨q15, g15, l15⟩ := hsh u (by omega) (by omega)
      obtain ⟨ca15, cf15, ⟨w15, u15⟩, c15, d15, e15⟩ := id l15
      obtain ⟨⟨o15, o15'⟩, ⟨n15, n15'⟩, cc15, xy15⟩ := hD.2.2.2.2.2 u (by omega) (by omega)
      have b15 := hb _ w15
      have m15 := (kfF _ b15 id).trans c15
      refine q_aa eX9_remove_37 kp (by decide) (by omega) (by omega) g15 ?_
      refine q_as eX9_remove_38 (Or.inr (Or.inr (Or.inl ⟨rfl, rfl⟩))) kt1 (by omega) (by omega) m15 (fun h16 e17 => ?_)
      have k18 := (am_ne e17 f (by omega)).trans ko
      have k19 := (am_ne e17 pa (by omega)).trans kp
      have k20 := am_at e17
      have k21 := (am_ne e17 q15 (by omega)).trans m15
      have e17u : h16.2.1 = hh.2.1 := congrArg Prod.fst (am_z e17)
      have e17v : h16.2.2 = hh.2.2 := congrArg Prod.snd (am_z e17)
      have F22 : ∀ q, q < h.2.1 → ¬ NO q → h16.1 q = h.1 q := fun q q0 q1 => (am_ne e17 q (by omega)).trans (kfF q q0 q1)
      refine q_blk (lv2 := [(0, vr f), (1, vi p), (2, vr t1), (3, vi (k + 1))]) (st2 := []) kX9_remove_39 rfl ?_
      refine q_goto (tgt := 13) eX9_remove_42 (by decide) ?_
      exact ih7 (k + 1) h16 (am_uR gk k (some q15)) (⟨⟨by omega, by omega⟩, k20, by omega, (fun q q0 q1 => (show q = k ∨ q < k by omega).elim (fun e9 => by subst e9; unfold am_uR; rw [if_pos rfl, ← hj]; exact g15.symm) (fun e9 => by unfold am_uR; rw [if_neg (by omega)]; exact hg q q0 e9)), ⟨F22, ⟨by omega, by omega⟩, by omega, by omega⟩⟩) (by omega)
    refine q_blk (lv2 := [(0, vr f), (1, vi p), (2, vr t1), (3, vi k)]) (st2 := [vr f, vi k, vr t1]) kX9_remove_19 rfl ?_
    refine q_gr eX9_remove_22 fl_RX9_24 (Or.inr ⟨_, rfl⟩) ko rfl ?_
    refine q_blk (lv2 := [(0, vr f), (1, vi p), (2, vr t1), (3, vi k)]) (st2 := [vi p, vi k, vr pa, vi k, vr t1]) kX9_remove_25 rfl ?_
    refine AQ.ic_ge (tgt := 34) eX9_remove_27 (by decide) (by first | assumption | exact ⟨by omega, by omega⟩) (by first | assumption | exact ⟨by omega, by omega⟩) (fun br23 => ?_) (fun br23 => ?_)
    · skip
      refine q_blk (lv2 := [(0, vr f), (1, vi p), (2, vr t1), (3, vi k)]) (st2 := [vi (k + 1), vr pa, vi k, vr t1]) kX9_remove_34 rfl ?_
      exact jn37 (k + 1) (by first | rw [if_pos (by omega)] | rw [if_neg (by omega)])
    · skip
      refine q_blk (lv2 := [(0, vr f), (1, vi p), (2, vr t1), (3, vi k)]) (st2 := [vi k, vr pa, vi k, vr t1]) kX9_remove_30 rfl ?_
      refine q_goto (tgt := 37) eX9_remove_31 (by decide) ?_
      exact jn37 k (by first | rw [if_pos (by omega)] | rw [if_neg (by omega)])

/-- the numbers by chance -/
def RND (h : AH) (r : Nat) : Prop := ∃ sd : Int, h.1 r = some (10, 1, am_L [sd], am_G [none])
theorem RND.ob {h : AH} {r : Nat} (hR : RND h r) : am_ob h r 10 := by
  obtain ⟨sd, c⟩ := hR
  exact ⟨_, _, _, c⟩
theorem RND.mv {h h1 : AH} {r : Nat} (hR : RND h r) (e : h1.1 r = h.1 r) : RND h1 r := by
  obtain ⟨sd, c⟩ := hR
  exact ⟨sd, e.trans c⟩

set_option maxRecDepth 4000 in
set_option maxHeartbeats 1000000 in
theorem c_X11_init {w : am_w} {h : AH} {a : Nat} {sd : Int} (hc : h.1 a = some (10, 1, am_L (List.replicate 1 0), am_G (List.replicate 1 none))) (hl : a < h.2.1)  : AE w m_X11_init 2 [vr a, vi sd] h (am_unit (fun h1 => RND h1 a ∧ KF h h1 (fun q => q = a) 0 0)) := by
  refine AE.of wf_X11_init (Nat.le_of_ble_eq_true rfl) (am_ok_v) ?_
  refine q_blk (lv2 := [(0, vr a), (1, vi sd)]) (st2 := [vr a]) kX11_init_0 rfl ?_
  refine AQ.of (AS.objInit eX11_init_1 (am_gw 621 (by decide +kernel) (by decide +kernel)) (am_gw 77 (by decide +kernel) (by decide +kernel)) (am_gw 78 (by decide +kernel) (by decide +kernel)) (by decide) (Nat.le_of_ble_eq_true rfl)) ?_
  refine q_blk (lv2 := [(0, vr a), (1, vi sd)]) (st2 := [vi sd, vr a]) kX11_init_4 rfl ?_
  refine q_pi eX11_init_6 fl_RX11_7 (fun q hq => by cases hq; exact Or.inl rfl) (Or.inl rfl) hc (Nat.le_of_ble_eq_true rfl) (l2 := [sd]) rfl (fun h1 e2 => ?_)
  have k3 := am_at e2
  have e2u : h1.2.1 = h.2.1 := congrArg Prod.fst (am_z e2)
  have e2v : h1.2.2 = h.2.2 := congrArg Prod.snd (am_z e2)
  have F4 : ∀ q, q < h.2.1 → ¬ (fun q => q = a) q → h1.1 q = h.1 q := fun q q0 q1 => (am_ne e2 q (fun c => q1 c)).trans ((fun _ _ _ => rfl) q q0 q1)
  exact q_rv rfl eX11_init_9 ⟨rfl, ⟨sd, k3⟩, ⟨F4, ⟨by omega, by omega⟩, by omega, by omega⟩⟩

set_option maxRecDepth 4000 in
set_option maxHeartbeats 1000000 in
theorem c_X11_below {w : am_w} {h : AH} {r : Nat} (hR : RND h r) (hl : r < h.2.1) {b : Int} (b0 : 1 ≤ b) (b1 : b ≤ 10000)  : AE w m_X11_below 2 [vr r, vi b] h (am_int (fun z h1 => (0 ≤ z ∧ z < b) ∧ RND h1 r ∧ KF h h1 (fun q => q = r) 0 0)) := by
  refine AE.of wf_X11_below (Nat.le_of_ble_eq_true rfl) (am_ok_i) ?_
  obtain ⟨sd, hc⟩ := hR
  refine q_blk (lv2 := [(0, vr r), (1, vi b)]) (st2 := [vr r]) kX11_below_0 rfl ?_
  refine AQ.of (AS.ldc (z := 1103515245) eX11_below_1 (am_gw 630 (by decide +kernel) (by decide +kernel))) ?_
  refine q_blk (lv2 := [(0, vr r), (1, vi b)]) (st2 := [vr r, vi 1103515245, vr r]) kX11_below_3 rfl ?_
  refine q_gi eX11_below_4 fl_RX11_7 (Or.inl rfl) hc (z := sd) rfl ?_
  refine q_blk (lv2 := [(0, vr r), (1, vi b)]) (st2 := [vi ((1103515245 * sd) + 12345), vr r]) kX11_below_7 rfl ?_
  refine q_pi eX11_below_12 fl_RX11_7 (fun q hq => by cases hq; exact Or.inl rfl) (Or.inl rfl) hc (Nat.le_of_ble_eq_true rfl) (l2 := [((1103515245 * sd) + 12345)]) rfl (fun h1 e2 => ?_)
  have k3 := am_at e2
  have e2u : h1.2.1 = h.2.1 := congrArg Prod.fst (am_z e2)
  have e2v : h1.2.2 = h.2.2 := congrArg Prod.snd (am_z e2)
  have F4 : ∀ q, q < h.2.1 → ¬ (fun q => q = r) q → h1.1 q = h.1 q := fun q q0 q1 => (am_ne e2 q (fun c => q1 c)).trans ((fun _ _ _ => rfl) q q0 q1)
  refine q_blk (lv2 := [(0, vr r), (1, vi b)]) (st2 := [vr r]) kX11_below_15 rfl ?_
  refine q_gi eX11_below_16 fl_RX11_7 (Or.inl rfl) k3 (z := ((1103515245 * sd) + 12345)) rfl ?_
  refine q_blk (lv2 := [(0, vr r), (1, vi b)]) (st2 := [vi 16, vi ((1103515245 * sd) + 12345)]) kX11_below_19 rfl ?_
  refine AQ.iushr16 eX11_below_21 (fun v5 v5a v5b => ?_)
  refine q_blk (lv2 := [(0, vr r), (1, vi b)]) (st2 := [vi b, vi v5]) kX11_below_22 rfl ?_
  refine AQ.of (AS.irem eX11_below_23 (by first | assumption | exact ⟨by omega, by omega⟩) (by first | assumption | exact ⟨by omega, by omega⟩) (by omega)) ?_
  exact q_ri rfl eX11_below_24 ⟨(Int.tmod v5 b), rfl, ⟨Int.tmod_nonneg _ (by omega), Int.tmod_lt_of_pos _ (by omega)⟩, ⟨_, k3⟩, ⟨F4, ⟨by omega, by omega⟩, by omega, by omega⟩⟩
