/-! The law's loop: its shapes changed; up to the switch. -/
theorem eL_law_403 : decode cL_law 403 = .ok (.astore 20, 2) := by decide +kernel
theorem kL_law_405 : am_dec cL_law 405 [.aload 5, .bipush 9] 409 = true := by decide +kernel
theorem FLD.setP {h h1 : AH} {B : Nat → Prop} {f sa pa a ca' : Nat} {gs gp : Int → Option Nat} {T : Option Nat} {D : Int → Int} (hF : FLD h B f sa pa gs gp T D) (hD : VD D) (hb : ∀ q, B q → q < h.2.1) {p n c : Int} {xs ys cf : Int → Int} (p0 : 0 ≤ p) (p1 : p < D 3) (ga : gp p = some a) (F : ∀ q, q < h.2.1 → q ≠ a → h1.1 q = h.1 q) (hn : n ≤ 12) (c0 : h1.1 a = some (11, 3, am_L [pO D p, c, 0], am_G [none, none, some ca'])) (c1 : h1.1 ca' = some (100, n, cf, am_N)) (hB : B ca' ∨ FR h h1 ca') (hx : ∀ k, 0 ≤ k → k < n → cf k = 100 * xs k + ys k) : FLD h1 (fun q => B q ∨ FR h h1 q) f sa pa gs gp T (gm_setP D p n c xs ys) := by
  obtain ⟨⟨bf, bs, bp⟩, C0, ⟨fz1, C1⟩, ⟨fz2, C2⟩, hst, hsh, hij⟩ := id hF
  obtain ⟨a', g, l⟩ := hsh p p0 p1
  rw [ga] at g
  obtain rfl := Option.some.inj g
  obtain ⟨ca, cfo, ⟨wa, wc⟩, k0, k1, hx0⟩ := id l
  have o : ∀ i, i < 67 + 27 * p ∨ 93 + 27 * p ≤ i → gm_setP D p n c xs ys i = D i := fun i z => gm_setP_o z
  have d2 := hD.2.2.1
  have ne : ∀ q ci nn ff fg, h.1 q = some (ci, nn, ff, fg) → ci ≠ 11 → q ≠ a := fun q ci nn ff fg e z w => by
    rw [w, k0] at e; cases e; exact z rfl
  have mv : ∀ q, B q → q ≠ a → h1.1 q = h.1 q := fun q b z => F q (hb q b) z
  refine ⟨⟨Or.inl bf, Or.inl bs, Or.inl bp⟩, ?_, ⟨fz1, ?_⟩, ⟨fz2, ?_⟩, fun k q0 q1 => ?_, fun q q0 q1 => ?_, ?_⟩
  · rw [o 0 (by omega), o 1 (by omega)]
    exact (mv f bf (ne f _ _ _ _ C0 (by decide))).trans C0
  · rw [o 2 (by omega)]
    exact (mv sa bs (ne sa _ _ _ _ C1 (by decide))).trans C1
  · rw [o 3 (by omega)]
    exact (mv pa bp (ne pa _ _ _ _ C2 (by decide))).trans C2
  · rw [o 2 (by omega)] at q1
    obtain ⟨q, fs, x1, x2, x3, x4⟩ := hst k q0 q1
    refine ⟨q, fs, x1, Or.inl x2, (mv q x2 (ne q _ _ _ _ x3 (by decide))).trans x3, ?_⟩
    rw [show sX (gm_setP D p n c xs ys) k = sX D k from o _ (by omega), show sY (gm_setP D p n c xs ys) k = sY D k from o _ (by omega), show sV (gm_setP D p n c xs ys) k = sV D k from o _ (by omega)]
    exact x4
  · rw [o 3 (by omega)] at q1
    by_cases e : q = p
    · subst e
      rw [gm_setP_n, gm_setP_c, gm_setP_w]
      refine ⟨a, ga, ca', cf, ⟨Or.inl wa, hB⟩, c0, c1, fun k k0 k1 => ?_⟩
      have := gm_setP_x (D := D) (p := q) (n := n) (c := c) (xs := xs) (ys := ys) k0 (by omega)
      rw [this.1, this.2]
      exact hx k k0 k1
    · obtain ⟨x, g2, l2⟩ := hsh q q0 q1
      obtain ⟨cb, cg, ⟨v1, v2⟩, m0, m1, hy⟩ := l2
      have nx : x ≠ a := fun z => e (hij q p q0 q1 p0 p1 (by rw [g2, ga, z]))
      obtain ⟨u1, u2, u3, u4⟩ := gm_setP_q (D := D) (n := n) (c := c) (xs := xs) (ys := ys) e
      have v := (hD.2.2.2.2.2 q q0 q1).2.1
      rw [u1, u2, u3]
      refine ⟨x, g2, cb, cg, ⟨Or.inl v1, Or.inl v2⟩, (mv x v1 nx).trans m0, (mv cb v2 (ne cb _ _ _ _ m1 (by decide))).trans m1, fun k k0 k1 => ?_⟩
      rw [(u4 k k0 (by omega)).1, (u4 k k0 (by omega)).2]
      exact hy k k0 k1
  · intro q q' q0 q1 q2 q3 e
    rw [o 3 (by omega)] at q1 q3
    exact hij q q' q0 q1 q2 q3 e
section CPL
variable {w : am_w} {o bu r bf f sa pa : Nat} {gs gp : Int → Option Nat} {T : Option Nat} {L : GL} {h h1 : AH} {D cm : Int → Int} {sc : Nat} {tx : Int → Int} {bl le : Int} {Hs H1 : List GE} {c s : Nat}
theorem CPO.kr {n : Int} {g : Nat} {e : GE} (x : CPO o bu r bf f gp n T L h g e) (k : KF h h1 (fun q => q = r) c s) : CPO o bu r bf f gp n T L h1 g e := by
  obtain ⟨sa', pa', gs', gp2, F, y⟩ := x
  exact ⟨sa', pa', gs', gp2, F.loc (fun q b => k.1 q b.1.1.2 b.1.2.2.1) (fun q b => ⟨b.1.up k.2.1.1, b.2⟩), y⟩
theorem INV.cp (x : INV w o bu r bf f sa pa gs gp T L h D cm sc tx bl le Hs H1) {g t : Nat} {gk : Int → Option Nat} (k : KF h h1 NO c s) (fr : FR h h1 g) (F : FLD h1 (fun q => (LB o bu r bf h q ∧ ¬ MS f gp (D 3) q) ∨ FR h h1 q) g sa t gs gk T D) (sc9 : Nat) : CPO o bu r bf f gp (D 3) T L h1 g (D, cm, sc, L) ∧ am_ob h1 g 8 ∧ LBM o bu r bf f gp (D 3) h1 g := by
  have t9 := k.2.1.1
  have nw : ∀ q, FR h h1 q → LBM o bu r bf f gp (D 3) h1 q := fun q z => by
    have ob := x.2.2.2.1
    have e8 := x.1.1.1.2.2.2.2.2.2.2
    have b8 := x.1.2.2.1
    refine ⟨⟨⟨by have := z.1; omega, z.2⟩, by have := z.1; omega, by have := z.1; have := ob.2.1; omega, by have := z.1; have := ob.2.2; omega⟩, fun m => ?_⟩
    have := (x.ms m).1.1.2
    have := z.1
    omega
  exact ⟨⟨sa, t, gs, gk, F.loc (fun _ _ => rfl) (fun q b => b.elim (fun a => ⟨a.1.up t9, a.2⟩) (nw q)), x.2.2.1, rfl⟩, F.ob, nw g fr⟩
end CPL
/-- the field, a copy of it, all else -/
def INC (w : am_w) (o bu r bf f sa pa : Nat) (gs gp : Int → Option Nat) (T : Option Nat) (L : GL) (h : AH) (D cm : Int → Int) (sc : Nat) (tx : Int → Int) (bl le : Int) (Hs H1 : List GE) (g : Nat) : Prop := INV w o bu r bf f sa pa gs gp T L h D cm sc tx bl le Hs H1 ∧ CPO o bu r bf f gp (D 3) T L h g (D, cm, sc, L) ∧ am_ob h g 8 ∧ LBM o bu r bf f gp (D 3) h g
theorem INC.kr {w : am_w} {o bu r bf f sa pa : Nat} {gs gp : Int → Option Nat} {T : Option Nat} {L : GL} {h h1 : AH} {D cm : Int → Int} {sc : Nat} {tx : Int → Int} {bl le : Int} {Hs H1 : List GE} {c s g : Nat} (x : INC w o bu r bf f sa pa gs gp T L h D cm sc tx bl le Hs H1 g) (k : KF h h1 (fun q => q = r) c s) (hR : RND h1 r) : INC w o bu r bf f sa pa gs gp T L h1 D cm sc tx bl le Hs H1 g := by
  obtain ⟨a, b, ⟨nn, ff, fg, z⟩, e⟩ := x
  exact ⟨a.kr k hR, b.kr k, ⟨nn, ff, fg, (k.1 g e.1.1.2 e.1.2.2.1).trans z⟩, e.1.up k.2.1.1, e.2⟩

set_option maxRecDepth 4000 in
set_option maxHeartbeats 4000000 in
theorem sg_A {nm : String} {TT : List (Nat × Nat × Nat × Nat)} {w : am_w} {d b0 : Nat} {i9 dn n : Int} {Q : RV → AH → Prop} {h : AH} {o bu r bf f sa pa : Nat} {gs gp : Int → Option Nat} {T : Option Nat} {L : GL} {D cm : Int → Int} {sc : Nat} {tx : Int → Int} {bl le : Int} {Hs H1 : List GE} (hd : 90 ≤ d) (hI : INV w o bu r bf f sa pa gs gp T L h D cm sc tx bl le Hs H1) (kk : ∀ {g9 : Nat} {p x y : Int} (h1 : AH), INC w o bu r bf f sa pa gs gp T L h1 D cm sc tx bl le Hs H1 g9 → (0 ≤ p ∧ p ≤ D 3) → (0 ≤ x ∧ x ≤ D 0) → (0 ≤ y ∧ y ≤ D 1) → (h1.2.1 ≤ h.2.1 + 16 ∧ h1.2.2 ≤ h.2.2 + 30) → AQ w (mL nm TT) d 317 [(0, vr b0), (1, vi 1), (2, vi i9), (3, vr o), (4, vr bu), (5, vr r), (6, vr f), (7, vr bf), (8, vi dn), (9, vi n), (10, vr g9), (11, vi 1), (12, vi (-2000000097)), (13, vi (D 3)), (14, vi p), (15, vi x)] [vi y] h1 Q)  : AQ w (mL nm TT) d 239 [(0, vr b0), (1, vi 1), (2, vi i9), (3, vr o), (4, vr bu), (5, vr r), (6, vr f), (7, vr bf), (8, vi dn), (9, vi n)] [] h Q := by
  have hD := hI.2.2.1.1
  have d0 := hD.1
  have d1 := hD.2.1
  have d2 := hD.2.2.1
  have d3 := hD.2.2.2.1
  refine q_blk (lv2 := [(0, vr b0), (1, vi 1), (2, vi i9), (3, vr o), (4, vr bu), (5, vr r), (6, vr f), (7, vr bf), (8, vi dn), (9, vi n)]) (st2 := [vr f]) kL_law_239 rfl ?_
  refine AQ.callVr (av := []) (st := []) (c_X9_copy hI.2.1 hI.2.2.1.1 (fun q b => b.1.2)) lk_RL_271 (by omega) rfl rfl hI.2.1.ob ⟨_, rfl, rfl⟩ (Nat.le_of_ble_eq_true rfl) eL_law_241 (fun z1 h3 e2 => ?_)
  obtain ⟨g4q, ⟨g4t, g4p, g4F, -⟩, g4k⟩ := e2
  have g4i : INC w o bu r bf f sa pa gs gp T L h3 D cm sc tx bl le Hs H1 z1 := ⟨hI.kn g4k, hI.cp g4k g4q g4F 0⟩
  obtain ⟨-, ⟨g4a, g4b⟩, g4y, g4z⟩ := id g4k
  refine q_blk (lv2 := [(0, vr b0), (1, vi 1), (2, vi i9), (3, vr o), (4, vr bu), (5, vr r), (6, vr f), (7, vr bf), (8, vi dn), (9, vi n), (10, vr z1), (11, vi 1)]) (st2 := []) kL_law_244 rfl ?_
  refine AQ.of (AS.ldc (z := (-2000000097)) eL_law_249 (show Cond.constant RL 58 (Int32.ofInt (-2000000097)) ∈ GW from am_gw 1087 (by decide +kernel) (by decide +kernel))) ?_
  refine q_blk (lv2 := [(0, vr b0), (1, vi 1), (2, vi i9), (3, vr o), (4, vr bu), (5, vr r), (6, vr f), (7, vr bf), (8, vi dn), (9, vi n), (10, vr z1), (11, vi 1), (12, vi (-2000000097))]) (st2 := [vr f]) kL_law_251 rfl ?_
  obtain ⟨⟨bf5, bs5, bp5⟩, C05, ⟨fz15, C15⟩, ⟨fz25, C25⟩, hst, hsh, hij⟩ := id g4i.1.2.1
  refine q_gr eL_law_255 fl_RL_169 (Or.inr ⟨_, rfl⟩) C05 rfl ?_
  refine q_al eL_law_258 C25 (by decide) ?_
  refine q_blk (lv2 := [(0, vr b0), (1, vi 1), (2, vi i9), (3, vr o), (4, vr bu), (5, vr r), (6, vr f), (7, vr bf), (8, vi dn), (9, vi n), (10, vr z1), (11, vi 1), (12, vi (-2000000097)), (13, vi (D 3))]) (st2 := [vi 12, vr r, vi (D 3), vr r]) kL_law_259 rfl ?_
  refine AQ.callVi (av := [vi 12]) (st := [vi (D 3), vr r]) (c_X11_below g4i.1.2.2.2.1.1 g4i.1.2.2.2.1.2.1.2.1 (b := 12) (by omega) (by omega)) lk_RL_132 (by omega) rfl rfl g4i.1.2.2.2.1.1.ob ⟨_, rfl, rfl⟩ (Nat.le_of_ble_eq_true rfl) eL_law_269 (fun z6 h8 e7 => ?_)
  obtain ⟨⟨z6a, z6b⟩, g9r, g9k⟩ := e7
  have g9i := g4i.kr g9k g9r
  obtain ⟨-, ⟨g9a, g9b⟩, g9y, g9z⟩ := id g9k
  have jn285 : ∀ (u : Int), ((u = 0 ∨ u = 1) ∧ 1 ≤ D 3 + u) → AQ w (mL nm TT) d 285 [(0, vr b0), (1, vi 1), (2, vi i9), (3, vr o), (4, vr bu), (5, vr r), (6, vr f), (7, vr bf), (8, vi dn), (9, vi n), (10, vr z1), (11, vi 1), (12, vi (-2000000097)), (13, vi (D 3))] [vi u, vi (D 3), vr r] h8 (Q) := by
    intro u hj
    refine q_blk (lv2 := [(0, vr b0), (1, vi 1), (2, vi i9), (3, vr o), (4, vr bu), (5, vr r), (6, vr f), (7, vr bf), (8, vi dn), (9, vi n), (10, vr z1), (11, vi 1), (12, vi (-2000000097)), (13, vi (D 3))]) (st2 := [vi ((D 3) + u), vr r]) kL_law_285 rfl ?_
    refine AQ.callVi (av := [vi ((D 3) + u)]) (st := []) (c_X11_below g9i.1.2.2.2.1.1 g9i.1.2.2.2.1.2.1.2.1 (b := ((D 3) + u)) (by omega) (by omega)) lk_RL_132 (by omega) rfl rfl g9i.1.2.2.2.1.1.ob ⟨_, rfl, rfl⟩ (Nat.le_of_ble_eq_true rfl) eL_law_286 (fun z10 h12 e11 => ?_)
    obtain ⟨⟨z10a, z10b⟩, g13r, g13k⟩ := e11
    have g13i := g9i.kr g13k g13r
    obtain ⟨-, ⟨g13a, g13b⟩, g13y, g13z⟩ := id g13k
    refine q_blk (lv2 := [(0, vr b0), (1, vi 1), (2, vi i9), (3, vr o), (4, vr bu), (5, vr r), (6, vr f), (7, vr bf), (8, vi dn), (9, vi n), (10, vr z1), (11, vi 1), (12, vi (-2000000097)), (13, vi (D 3)), (14, vi z10)]) (st2 := [vr f, vr r]) kL_law_289 rfl ?_
    obtain ⟨⟨bf14, bs14, bp14⟩, C014, ⟨fz114, C114⟩, ⟨fz214, C214⟩, hst, hsh, hij⟩ := id g13i.1.2.1
    refine q_gi eL_law_295 fl_RL_137 (Or.inl rfl) C014 (z := (D 0)) rfl ?_
    refine q_blk (lv2 := [(0, vr b0), (1, vi 1), (2, vi i9), (3, vr o), (4, vr bu), (5, vr r), (6, vr f), (7, vr bf), (8, vi dn), (9, vi n), (10, vr z1), (11, vi 1), (12, vi (-2000000097)), (13, vi (D 3)), (14, vi z10)]) (st2 := [vi ((D 0) + 1), vr r]) kL_law_298 rfl ?_
    refine AQ.callVi (av := [vi ((D 0) + 1)]) (st := []) (c_X11_below g13i.1.2.2.2.1.1 g13i.1.2.2.2.1.2.1.2.1 (b := ((D 0) + 1)) (by omega) (by omega)) lk_RL_132 (by omega) rfl rfl g13i.1.2.2.2.1.1.ob ⟨_, rfl, rfl⟩ (Nat.le_of_ble_eq_true rfl) eL_law_300 (fun z15 h17 e16 => ?_)
    obtain ⟨⟨z15a, z15b⟩, g18r, g18k⟩ := e16
    have g18i := g13i.kr g18k g18r
    obtain ⟨-, ⟨g18a, g18b⟩, g18y, g18z⟩ := id g18k
    refine q_blk (lv2 := [(0, vr b0), (1, vi 1), (2, vi i9), (3, vr o), (4, vr bu), (5, vr r), (6, vr f), (7, vr bf), (8, vi dn), (9, vi n), (10, vr z1), (11, vi 1), (12, vi (-2000000097)), (13, vi (D 3)), (14, vi z10), (15, vi z15)]) (st2 := [vr f, vr r]) kL_law_303 rfl ?_
    obtain ⟨⟨bf19, bs19, bp19⟩, C019, ⟨fz119, C119⟩, ⟨fz219, C219⟩, hst, hsh, hij⟩ := id g18i.1.2.1
    refine q_gi eL_law_309 fl_RL_141 (Or.inl rfl) C019 (z := (D 1)) rfl ?_
    refine q_blk (lv2 := [(0, vr b0), (1, vi 1), (2, vi i9), (3, vr o), (4, vr bu), (5, vr r), (6, vr f), (7, vr bf), (8, vi dn), (9, vi n), (10, vr z1), (11, vi 1), (12, vi (-2000000097)), (13, vi (D 3)), (14, vi z10), (15, vi z15)]) (st2 := [vi ((D 1) + 1), vr r]) kL_law_312 rfl ?_
    refine AQ.callVi (av := [vi ((D 1) + 1)]) (st := []) (c_X11_below g18i.1.2.2.2.1.1 g18i.1.2.2.2.1.2.1.2.1 (b := ((D 1) + 1)) (by omega) (by omega)) lk_RL_132 (by omega) rfl rfl g18i.1.2.2.2.1.1.ob ⟨_, rfl, rfl⟩ (Nat.le_of_ble_eq_true rfl) eL_law_314 (fun z20 h22 e21 => ?_)
    obtain ⟨⟨z20a, z20b⟩, g23r, g23k⟩ := e21
    have g23i := g18i.kr g23k g23r
    obtain ⟨-, ⟨g23a, g23b⟩, g23y, g23z⟩ := id g23k
    exact kk (g9 := z1) (p := z10) (x := z15) (y := z20) h22 g23i ⟨by omega, by omega⟩ ⟨by omega, by omega⟩ ⟨by omega, by omega⟩ ⟨by omega, by omega⟩
  refine AQ.if_eq (tgt := 280) eL_law_272 (by decide) (by first | assumption | exact ⟨by omega, by omega⟩ | exact ⟨by decide, by decide⟩) (fun br24 => ?_) (fun br24 => ?_)
  · skip
    refine q_blk (lv2 := [(0, vr b0), (1, vi 1), (2, vi i9), (3, vr o), (4, vr bu), (5, vr r), (6, vr f), (7, vr bf), (8, vi dn), (9, vi n), (10, vr z1), (11, vi 1), (12, vi (-2000000097)), (13, vi (D 3))]) (st2 := [vi 1, vi (D 3), vr r]) kL_law_280 rfl ?_
    refine q_goto (tgt := 285) eL_law_281 (by decide) ?_
    exact jn285 1 (⟨by omega, by omega⟩)
  · skip
    refine q_blk (lv2 := [(0, vr b0), (1, vi 1), (2, vi i9), (3, vr o), (4, vr bu), (5, vr r), (6, vr f), (7, vr bf), (8, vi dn), (9, vi n), (10, vr z1), (11, vi 1), (12, vi (-2000000097)), (13, vi (D 3))]) (st2 := [vi (D 3), vi (D 3), vr r]) kL_law_275 rfl ?_
    refine AQ.if_ne (tgt := 284) eL_law_277 (by decide) (by first | assumption | exact ⟨by omega, by omega⟩ | exact ⟨by decide, by decide⟩) (fun br25 => ?_) (fun br25 => ?_)
    · skip
      refine q_blk (lv2 := [(0, vr b0), (1, vi 1), (2, vi i9), (3, vr o), (4, vr bu), (5, vr r), (6, vr f), (7, vr bf), (8, vi dn), (9, vi n), (10, vr z1), (11, vi 1), (12, vi (-2000000097)), (13, vi (D 3))]) (st2 := [vi 0, vi (D 3), vr r]) kL_law_284 rfl ?_
      exact jn285 0 (⟨by omega, by omega⟩)
    · skip
      refine q_blk (lv2 := [(0, vr b0), (1, vi 1), (2, vi i9), (3, vr o), (4, vr bu), (5, vr r), (6, vr f), (7, vr bf), (8, vi dn), (9, vi n), (10, vr z1), (11, vi 1), (12, vi (-2000000097)), (13, vi (D 3))]) (st2 := [vi 1, vi (D 3), vr r]) kL_law_280 rfl ?_
      refine q_goto (tgt := 285) eL_law_281 (by decide) ?_
      exact jn285 1 (⟨by omega, by omega⟩)

theorem kL_law_403s : am_dec cL_law 403 [.astore 20] 405 = true := by decide +kernel

set_option maxRecDepth 4000 in
set_option maxHeartbeats 4000000 in
theorem sg_B1 {nm : String} {TT : List (Nat × Nat × Nat × Nat)} {w : am_w} {d b0 : Nat} {i9 dn n : Int} {Q : RV → AH → Prop} {h : AH} {o bu r bf f sa pa : Nat} {gs gp : Int → Option Nat} {T : Option Nat} {L : GL} {D cm : Int → Int} {sc : Nat} {tx : Int → Int} {bl le : Int} {Hs H1 : List GE} {g9 : Nat} {p x y : Int} (hd : 90 ≤ d) (hI : INC w o bu r bf f sa pa gs gp T L h D cm sc tx bl le Hs H1 g9) (hp : 0 ≤ p ∧ p < D 3) (kk : ∀ {pl : Int} {shq : Nat} (h1 : AH), gp p = some shq → INC w o bu r bf f sa pa gs gp T L h1 D cm sc tx bl le Hs H1 g9 → (0 ≤ pl ∧ pl ≤ pN D p) → (h1.2.1 ≤ h.2.1 + 0 ∧ h1.2.2 ≤ h.2.2 + 0) → AQ w (mL nm TT) d 405 [(0, vr b0), (1, vi 1), (2, vi i9), (3, vr o), (4, vr bu), (5, vr r), (6, vr f), (7, vr bf), (8, vi dn), (9, vi n), (10, vr g9), (11, vi 1), (12, vi (-2000000097)), (13, vi (D 3)), (14, vi p), (15, vi x), (16, vi y), (17, vi 1), (18, vi (pN D p)), (19, vi pl), (20, vr shq)] [] h1 Q)  : AQ w (mL nm TT) d 317 [(0, vr b0), (1, vi 1), (2, vi i9), (3, vr o), (4, vr bu), (5, vr r), (6, vr f), (7, vr bf), (8, vi dn), (9, vi n), (10, vr g9), (11, vi 1), (12, vi (-2000000097)), (13, vi (D 3)), (14, vi p), (15, vi x)] [vi y] h Q := by
  have hD := hI.1.2.2.1.1
  have d0 := hD.1
  have d1 := hD.2.1
  have d2 := hD.2.2.1
  have d3 := hD.2.2.2.1
  have vcp := hD.vc (p := p) (by omega) (by omega)
  obtain ⟨op1, ⟨np1, np2⟩, cp1, -⟩ := hD.2.2.2.2.2 p (by omega) (by omega)
  obtain ⟨shq, hsq, -⟩ := hI.1.2.1.2.2.2.2.2.1 p (by omega) (by omega)
  refine q_blk (lv2 := [(0, vr b0), (1, vi 1), (2, vi i9), (3, vr o), (4, vr bu), (5, vr r), (6, vr f), (7, vr bf), (8, vi dn), (9, vi n), (10, vr g9), (11, vi 1), (12, vi (-2000000097)), (13, vi (D 3)), (14, vi p), (15, vi x), (16, vi y)]) (st2 := [vi (D 3), vi p]) kL_law_317 rfl ?_
  refine AQ.of (AS.ic_ge_f eL_law_323 (by first | assumption | exact ⟨by omega, by omega⟩ | exact ⟨by decide, by decide⟩) (by first | assumption | exact ⟨by omega, by omega⟩ | exact ⟨by decide, by decide⟩) (by omega) (by decide)) ?_
  refine q_blk (lv2 := [(0, vr b0), (1, vi 1), (2, vi i9), (3, vr o), (4, vr bu), (5, vr r), (6, vr f), (7, vr bf), (8, vi dn), (9, vi n), (10, vr g9), (11, vi 1), (12, vi (-2000000097)), (13, vi (D 3)), (14, vi p), (15, vi x), (16, vi y)]) (st2 := [vi 1]) kL_law_326 rfl ?_
  refine q_goto (tgt := 331) eL_law_327 (by decide) ?_
  refine q_blk (lv2 := [(0, vr b0), (1, vi 1), (2, vi i9), (3, vr o), (4, vr bu), (5, vr r), (6, vr f), (7, vr bf), (8, vi dn), (9, vi n), (10, vr g9), (11, vi 1), (12, vi (-2000000097)), (13, vi (D 3)), (14, vi p), (15, vi x), (16, vi y), (17, vi 1)]) (st2 := [vi 1]) kL_law_331 rfl ?_
  refine AQ.of (AS.if_eq_f eL_law_335 ⟨by decide, by decide⟩ (by decide) (by decide)) ?_
  refine q_blk (lv2 := [(0, vr b0), (1, vi 1), (2, vi i9), (3, vr o), (4, vr bu), (5, vr r), (6, vr f), (7, vr bf), (8, vi dn), (9, vi n), (10, vr g9), (11, vi 1), (12, vi (-2000000097)), (13, vi (D 3)), (14, vi p), (15, vi x), (16, vi y), (17, vi 1)]) (st2 := [vr f]) kL_law_338 rfl ?_
  obtain ⟨⟨bf1, bs1, bp1⟩, C01, ⟨fz11, C11⟩, ⟨fz21, C21⟩, hst, hsh, hij⟩ := id hI.1.2.1
  refine q_gr eL_law_340 fl_RL_169 (Or.inr ⟨_, rfl⟩) C01 rfl ?_
  refine q_blk (lv2 := [(0, vr b0), (1, vi 1), (2, vi i9), (3, vr o), (4, vr bu), (5, vr r), (6, vr f), (7, vr bf), (8, vi dn), (9, vi n), (10, vr g9), (11, vi 1), (12, vi (-2000000097)), (13, vi (D 3)), (14, vi p), (15, vi x), (16, vi y), (17, vi 1)]) (st2 := [vi p, vr pa]) kL_law_343 rfl ?_
  refine q_aa eL_law_345 C21 (by decide) (by omega) (by omega) hsq ?_
  obtain ⟨q2, g2, l2⟩ := hsh p (by omega) (by omega)
  rw [hsq] at g2; obtain rfl := Option.some.inj g2
  obtain ⟨ca2, cf2, ⟨w2, u2⟩, c2, d2, e2⟩ := id l2
  refine q_gr eL_law_346 fl_RL_178 (Or.inr ⟨_, rfl⟩) c2 rfl ?_
  refine q_al eL_law_349 d2 (by decide) ?_
  refine q_goto (tgt := 354) eL_law_350 (by decide) ?_
  refine q_blk (lv2 := [(0, vr b0), (1, vi 1), (2, vi i9), (3, vr o), (4, vr bu), (5, vr r), (6, vr f), (7, vr bf), (8, vi dn), (9, vi n), (10, vr g9), (11, vi 1), (12, vi (-2000000097)), (13, vi (D 3)), (14, vi p), (15, vi x), (16, vi y), (17, vi 1), (18, vi (pN D p))]) (st2 := [vi 9, vr r, vi (pN D p), vr r]) kL_law_354 rfl ?_
  refine AQ.callVi (av := [vi 9]) (st := [vi (pN D p), vr r]) (c_X11_below hI.1.2.2.2.1.1 hI.1.2.2.2.1.2.1.2.1 (b := 9) (by omega) (by omega)) lk_RL_132 (by omega) rfl rfl hI.1.2.2.2.1.1.ob ⟨_, rfl, rfl⟩ (Nat.le_of_ble_eq_true rfl) eL_law_364 (fun z3 h5 e4 => ?_)
  obtain ⟨⟨z3a, z3b⟩, g6r, g6k⟩ := e4
  have g6i := hI.kr g6k g6r
  obtain ⟨-, ⟨g6a, g6b⟩, g6y, g6z⟩ := id g6k
  have jn380 : ∀ (u : Int), ((u = 0 ∨ u = 1) ∧ 1 ≤ pN D p + u) → AQ w (mL nm TT) d 380 [(0, vr b0), (1, vi 1), (2, vi i9), (3, vr o), (4, vr bu), (5, vr r), (6, vr f), (7, vr bf), (8, vi dn), (9, vi n), (10, vr g9), (11, vi 1), (12, vi (-2000000097)), (13, vi (D 3)), (14, vi p), (15, vi x), (16, vi y), (17, vi 1), (18, vi (pN D p))] [vi u, vi (pN D p), vr r] h5 (Q) := by
    intro u hj
    refine q_blk (lv2 := [(0, vr b0), (1, vi 1), (2, vi i9), (3, vr o), (4, vr bu), (5, vr r), (6, vr f), (7, vr bf), (8, vi dn), (9, vi n), (10, vr g9), (11, vi 1), (12, vi (-2000000097)), (13, vi (D 3)), (14, vi p), (15, vi x), (16, vi y), (17, vi 1), (18, vi (pN D p))]) (st2 := [vi ((pN D p) + u), vr r]) kL_law_380 rfl ?_
    refine AQ.callVi (av := [vi ((pN D p) + u)]) (st := []) (c_X11_below g6i.1.2.2.2.1.1 g6i.1.2.2.2.1.2.1.2.1 (b := ((pN D p) + u)) (by omega) (by omega)) lk_RL_132 (by omega) rfl rfl g6i.1.2.2.2.1.1.ob ⟨_, rfl, rfl⟩ (Nat.le_of_ble_eq_true rfl) eL_law_381 (fun z7 h9 e8 => ?_)
    obtain ⟨⟨z7a, z7b⟩, g10r, g10k⟩ := e8
    have g10i := g6i.kr g10k g10r
    obtain ⟨-, ⟨g10a, g10b⟩, g10y, g10z⟩ := id g10k
    refine q_blk (lv2 := [(0, vr b0), (1, vi 1), (2, vi i9), (3, vr o), (4, vr bu), (5, vr r), (6, vr f), (7, vr bf), (8, vi dn), (9, vi n), (10, vr g9), (11, vi 1), (12, vi (-2000000097)), (13, vi (D 3)), (14, vi p), (15, vi x), (16, vi y), (17, vi 1), (18, vi (pN D p)), (19, vi z7)]) (st2 := [vi 1]) kL_law_384 rfl ?_
    refine AQ.of (AS.if_eq_f eL_law_388 ⟨by decide, by decide⟩ (by decide) (by decide)) ?_
    refine q_blk (lv2 := [(0, vr b0), (1, vi 1), (2, vi i9), (3, vr o), (4, vr bu), (5, vr r), (6, vr f), (7, vr bf), (8, vi dn), (9, vi n), (10, vr g9), (11, vi 1), (12, vi (-2000000097)), (13, vi (D 3)), (14, vi p), (15, vi x), (16, vi y), (17, vi 1), (18, vi (pN D p)), (19, vi z7)]) (st2 := [vr f]) kL_law_391 rfl ?_
    obtain ⟨⟨bf11, bs11, bp11⟩, C011, ⟨fz111, C111⟩, ⟨fz211, C211⟩, hst, hsh, hij⟩ := id g10i.1.2.1
    refine q_gr eL_law_393 fl_RL_169 (Or.inr ⟨_, rfl⟩) C011 rfl ?_
    refine q_blk (lv2 := [(0, vr b0), (1, vi 1), (2, vi i9), (3, vr o), (4, vr bu), (5, vr r), (6, vr f), (7, vr bf), (8, vi dn), (9, vi n), (10, vr g9), (11, vi 1), (12, vi (-2000000097)), (13, vi (D 3)), (14, vi p), (15, vi x), (16, vi y), (17, vi 1), (18, vi (pN D p)), (19, vi z7)]) (st2 := [vi p, vr pa]) kL_law_396 rfl ?_
    refine q_aa eL_law_398 C211 (by decide) (by omega) (by omega) hsq ?_
    refine q_goto (tgt := 403) eL_law_399 (by decide) ?_
    refine q_blk (lv2 := [(0, vr b0), (1, vi 1), (2, vi i9), (3, vr o), (4, vr bu), (5, vr r), (6, vr f), (7, vr bf), (8, vi dn), (9, vi n), (10, vr g9), (11, vi 1), (12, vi (-2000000097)), (13, vi (D 3)), (14, vi p), (15, vi x), (16, vi y), (17, vi 1), (18, vi (pN D p)), (19, vi z7), (20, vr shq)]) (st2 := []) kL_law_403s rfl ?_
    exact kk (pl := z7) h9 hsq g10i ⟨by omega, by omega⟩ ⟨by omega, by omega⟩
  refine AQ.if_eq (tgt := 375) eL_law_367 (by decide) (by first | assumption | exact ⟨by omega, by omega⟩ | exact ⟨by decide, by decide⟩) (fun br12 => ?_) (fun br12 => ?_)
  · skip
    refine q_blk (lv2 := [(0, vr b0), (1, vi 1), (2, vi i9), (3, vr o), (4, vr bu), (5, vr r), (6, vr f), (7, vr bf), (8, vi dn), (9, vi n), (10, vr g9), (11, vi 1), (12, vi (-2000000097)), (13, vi (D 3)), (14, vi p), (15, vi x), (16, vi y), (17, vi 1), (18, vi (pN D p))]) (st2 := [vi 1, vi (pN D p), vr r]) kL_law_375 rfl ?_
    refine q_goto (tgt := 380) eL_law_376 (by decide) ?_
    exact jn380 1 (⟨by omega, by omega⟩)
  · skip
    refine q_blk (lv2 := [(0, vr b0), (1, vi 1), (2, vi i9), (3, vr o), (4, vr bu), (5, vr r), (6, vr f), (7, vr bf), (8, vi dn), (9, vi n), (10, vr g9), (11, vi 1), (12, vi (-2000000097)), (13, vi (D 3)), (14, vi p), (15, vi x), (16, vi y), (17, vi 1), (18, vi (pN D p))]) (st2 := [vi (pN D p), vi (pN D p), vr r]) kL_law_370 rfl ?_
    refine AQ.if_ne (tgt := 379) eL_law_372 (by decide) (by first | assumption | exact ⟨by omega, by omega⟩ | exact ⟨by decide, by decide⟩) (fun br13 => ?_) (fun br13 => ?_)
    · skip
      refine q_blk (lv2 := [(0, vr b0), (1, vi 1), (2, vi i9), (3, vr o), (4, vr bu), (5, vr r), (6, vr f), (7, vr bf), (8, vi dn), (9, vi n), (10, vr g9), (11, vi 1), (12, vi (-2000000097)), (13, vi (D 3)), (14, vi p), (15, vi x), (16, vi y), (17, vi 1), (18, vi (pN D p))]) (st2 := [vi 0, vi (pN D p), vr r]) kL_law_379 rfl ?_
      exact jn380 0 (⟨by omega, by omega⟩)
    · skip
      refine q_blk (lv2 := [(0, vr b0), (1, vi 1), (2, vi i9), (3, vr o), (4, vr bu), (5, vr r), (6, vr f), (7, vr bf), (8, vi dn), (9, vi n), (10, vr g9), (11, vi 1), (12, vi (-2000000097)), (13, vi (D 3)), (14, vi p), (15, vi x), (16, vi y), (17, vi 1), (18, vi (pN D p))]) (st2 := [vi 1, vi (pN D p), vr r]) kL_law_375 rfl ?_
      refine q_goto (tgt := 380) eL_law_376 (by decide) ?_
      exact jn380 1 (⟨by omega, by omega⟩)

set_option maxRecDepth 4000 in
set_option maxHeartbeats 4000000 in
theorem sg_B0 {nm : String} {TT : List (Nat × Nat × Nat × Nat)} {w : am_w} {d b0 : Nat} {i9 dn n : Int} {Q : RV → AH → Prop} {h : AH} {o bu r bf f sa pa : Nat} {gs gp : Int → Option Nat} {T : Option Nat} {L : GL} {D cm : Int → Int} {sc : Nat} {tx : Int → Int} {bl le : Int} {Hs H1 : List GE} {g9 : Nat} {p x y : Int} (hd : 90 ≤ d) (hI : INC w o bu r bf f sa pa gs gp T L h D cm sc tx bl le Hs H1 g9) (hp : p = D 3) (kk : ∀ {pl : Int} (h1 : AH), INC w o bu r bf f sa pa gs gp T L h1 D cm sc tx bl le Hs H1 g9 → (0 ≤ pl ∧ pl ≤ 30) → (h1.2.1 ≤ h.2.1 + 0 ∧ h1.2.2 ≤ h.2.2 + 0) → AQ w (mL nm TT) d 405 [(0, vr b0), (1, vi 1), (2, vi i9), (3, vr o), (4, vr bu), (5, vr r), (6, vr f), (7, vr bf), (8, vi dn), (9, vi n), (10, vr g9), (11, vi 1), (12, vi (-2000000097)), (13, vi (D 3)), (14, vi p), (15, vi x), (16, vi y), (17, vi 0), (18, vi 0), (19, vi pl)] [] h1 Q)  : AQ w (mL nm TT) d 317 [(0, vr b0), (1, vi 1), (2, vi i9), (3, vr o), (4, vr bu), (5, vr r), (6, vr f), (7, vr bf), (8, vi dn), (9, vi n), (10, vr g9), (11, vi 1), (12, vi (-2000000097)), (13, vi (D 3)), (14, vi p), (15, vi x)] [vi y] h Q := by
  have hD := hI.1.2.2.1.1
  have d0 := hD.1
  have d1 := hD.2.1
  have d2 := hD.2.2.1
  have d3 := hD.2.2.2.1
  refine q_blk (lv2 := [(0, vr b0), (1, vi 1), (2, vi i9), (3, vr o), (4, vr bu), (5, vr r), (6, vr f), (7, vr bf), (8, vi dn), (9, vi n), (10, vr g9), (11, vi 1), (12, vi (-2000000097)), (13, vi (D 3)), (14, vi p), (15, vi x), (16, vi y)]) (st2 := [vi (D 3), vi p]) kL_law_317 rfl ?_
  refine AQ.of (AS.ic_ge_t (tgt := 330) eL_law_323 (by decide) (by first | assumption | exact ⟨by omega, by omega⟩ | exact ⟨by decide, by decide⟩) (by first | assumption | exact ⟨by omega, by omega⟩ | exact ⟨by decide, by decide⟩) (by omega)) ?_
  refine q_blk (lv2 := [(0, vr b0), (1, vi 1), (2, vi i9), (3, vr o), (4, vr bu), (5, vr r), (6, vr f), (7, vr bf), (8, vi dn), (9, vi n), (10, vr g9), (11, vi 1), (12, vi (-2000000097)), (13, vi (D 3)), (14, vi p), (15, vi x), (16, vi y)]) (st2 := [vi 0]) kL_law_330 rfl ?_
  refine q_blk (lv2 := [(0, vr b0), (1, vi 1), (2, vi i9), (3, vr o), (4, vr bu), (5, vr r), (6, vr f), (7, vr bf), (8, vi dn), (9, vi n), (10, vr g9), (11, vi 1), (12, vi (-2000000097)), (13, vi (D 3)), (14, vi p), (15, vi x), (16, vi y), (17, vi 0)]) (st2 := [vi 0]) kL_law_331 rfl ?_
  refine AQ.of (AS.if_eq_t (tgt := 353) eL_law_335 (by decide) ⟨by decide, by decide⟩ (by decide)) ?_
  refine q_blk (lv2 := [(0, vr b0), (1, vi 1), (2, vi i9), (3, vr o), (4, vr bu), (5, vr r), (6, vr f), (7, vr bf), (8, vi dn), (9, vi n), (10, vr g9), (11, vi 1), (12, vi (-2000000097)), (13, vi (D 3)), (14, vi p), (15, vi x), (16, vi y), (17, vi 0)]) (st2 := [vi 0]) kL_law_353 rfl ?_
  refine q_blk (lv2 := [(0, vr b0), (1, vi 1), (2, vi i9), (3, vr o), (4, vr bu), (5, vr r), (6, vr f), (7, vr bf), (8, vi dn), (9, vi n), (10, vr g9), (11, vi 1), (12, vi (-2000000097)), (13, vi (D 3)), (14, vi p), (15, vi x), (16, vi y), (17, vi 0), (18, vi 0)]) (st2 := [vi 9, vr r, vi 0, vr r]) kL_law_354 rfl ?_
  refine AQ.callVi (av := [vi 9]) (st := [vi 0, vr r]) (c_X11_below hI.1.2.2.2.1.1 hI.1.2.2.2.1.2.1.2.1 (b := 9) (by omega) (by omega)) lk_RL_132 (by omega) rfl rfl hI.1.2.2.2.1.1.ob ⟨_, rfl, rfl⟩ (Nat.le_of_ble_eq_true rfl) eL_law_364 (fun z1 h3 e2 => ?_)
  obtain ⟨⟨z1a, z1b⟩, g4r, g4k⟩ := e2
  have g4i := hI.kr g4k g4r
  obtain ⟨-, ⟨g4a, g4b⟩, g4y, g4z⟩ := id g4k
  have jn380 : ∀ (u : Int), ((u = 0 ∨ u = 1) ∧ 1 ≤ 0 + u) → AQ w (mL nm TT) d 380 [(0, vr b0), (1, vi 1), (2, vi i9), (3, vr o), (4, vr bu), (5, vr r), (6, vr f), (7, vr bf), (8, vi dn), (9, vi n), (10, vr g9), (11, vi 1), (12, vi (-2000000097)), (13, vi (D 3)), (14, vi p), (15, vi x), (16, vi y), (17, vi 0), (18, vi 0)] [vi u, vi 0, vr r] h3 (Q) := by
    intro u hj
    refine q_blk (lv2 := [(0, vr b0), (1, vi 1), (2, vi i9), (3, vr o), (4, vr bu), (5, vr r), (6, vr f), (7, vr bf), (8, vi dn), (9, vi n), (10, vr g9), (11, vi 1), (12, vi (-2000000097)), (13, vi (D 3)), (14, vi p), (15, vi x), (16, vi y), (17, vi 0), (18, vi 0)]) (st2 := [vi (0 + u), vr r]) kL_law_380 rfl ?_
    refine AQ.callVi (av := [vi (0 + u)]) (st := []) (c_X11_below g4i.1.2.2.2.1.1 g4i.1.2.2.2.1.2.1.2.1 (b := (0 + u)) (by omega) (by omega)) lk_RL_132 (by omega) rfl rfl g4i.1.2.2.2.1.1.ob ⟨_, rfl, rfl⟩ (Nat.le_of_ble_eq_true rfl) eL_law_381 (fun z5 h7 e6 => ?_)
    obtain ⟨⟨z5a, z5b⟩, g8r, g8k⟩ := e6
    have g8i := g4i.kr g8k g8r
    obtain ⟨-, ⟨g8a, g8b⟩, g8y, g8z⟩ := id g8k
    refine q_blk (lv2 := [(0, vr b0), (1, vi 1), (2, vi i9), (3, vr o), (4, vr bu), (5, vr r), (6, vr f), (7, vr bf), (8, vi dn), (9, vi n), (10, vr g9), (11, vi 1), (12, vi (-2000000097)), (13, vi (D 3)), (14, vi p), (15, vi x), (16, vi y), (17, vi 0), (18, vi 0), (19, vi z5)]) (st2 := [vi 0]) kL_law_384 rfl ?_
    refine AQ.of (AS.if_eq_t (tgt := 402) eL_law_388 (by decide) ⟨by decide, by decide⟩ (by decide)) ?_
    refine AQ.of (AS.null eL_law_402) ?_
    refine AQ.of (AS.astN eL_law_403 (show 20 < 23 by decide)) ?_
    refine q_sub (lv2 := [(0, vr b0), (1, vi 1), (2, vi i9), (3, vr o), (4, vr bu), (5, vr r), (6, vr f), (7, vr bf), (8, vi dn), (9, vi n), (10, vr g9), (11, vi 1), (12, vi (-2000000097)), (13, vi (D 3)), (14, vi p), (15, vi x), (16, vi y), (17, vi 0), (18, vi 0), (19, vi z5)]) [0, 1, 2, 3, 4, 5, 6, 7, 8, 9, 10, 11, 12, 13, 14, 15, 16, 17, 18, 19] rfl ?_
    exact kk (pl := z5) h7 g8i ⟨by omega, by omega⟩ ⟨by omega, by omega⟩
  refine AQ.if_eq (tgt := 375) eL_law_367 (by decide) (by first | assumption | exact ⟨by omega, by omega⟩ | exact ⟨by decide, by decide⟩) (fun br9 => ?_) (fun br9 => ?_)
  · skip
    refine q_blk (lv2 := [(0, vr b0), (1, vi 1), (2, vi i9), (3, vr o), (4, vr bu), (5, vr r), (6, vr f), (7, vr bf), (8, vi dn), (9, vi n), (10, vr g9), (11, vi 1), (12, vi (-2000000097)), (13, vi (D 3)), (14, vi p), (15, vi x), (16, vi y), (17, vi 0), (18, vi 0)]) (st2 := [vi 1, vi 0, vr r]) kL_law_375 rfl ?_
    refine q_goto (tgt := 380) eL_law_376 (by decide) ?_
    exact jn380 1 (⟨by omega, by omega⟩)
  · skip
    refine q_blk (lv2 := [(0, vr b0), (1, vi 1), (2, vi i9), (3, vr o), (4, vr bu), (5, vr r), (6, vr f), (7, vr bf), (8, vi dn), (9, vi n), (10, vr g9), (11, vi 1), (12, vi (-2000000097)), (13, vi (D 3)), (14, vi p), (15, vi x), (16, vi y), (17, vi 0), (18, vi 0)]) (st2 := [vi 0, vi 0, vr r]) kL_law_370 rfl ?_
    refine AQ.of (AS.if_ne_f eL_law_372 ⟨by decide, by decide⟩ (by decide) (by decide)) ?_
    refine q_blk (lv2 := [(0, vr b0), (1, vi 1), (2, vi i9), (3, vr o), (4, vr bu), (5, vr r), (6, vr f), (7, vr bf), (8, vi dn), (9, vi n), (10, vr g9), (11, vi 1), (12, vi (-2000000097)), (13, vi (D 3)), (14, vi p), (15, vi x), (16, vi y), (17, vi 0), (18, vi 0)]) (st2 := [vi 1, vi 0, vr r]) kL_law_375 rfl ?_
    refine q_goto (tgt := 380) eL_law_376 (by decide) ?_
    exact jn380 1 (⟨by omega, by omega⟩)
