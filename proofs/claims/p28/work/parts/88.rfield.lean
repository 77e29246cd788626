/-! The law's random field: what holds while it is made. -/
theorem FLD.cf {h h1 : AH} {B : Nat → Prop} {f sa pa : Nat} {gs gp : Int → Option Nat} {T T' : Option Nat} {D E : Int → Int} (hF : FLD h B f sa pa gs gp T D) (F : ∀ q, B q → q ≠ f → h1.1 q = h.1 q) (cf : h1.1 f = some (8, 5, am_L [E 0, E 1, 0, 0, 0], am_G [none, none, some sa, some pa, T'])) (e : ∀ i, 2 ≤ i → E i = D i) : FLD h1 B f sa pa gs gp T' E := by
  obtain ⟨⟨bf, bs, bp⟩, c0, ⟨fz1, c1⟩, ⟨fz2, c2⟩, hst, hsh, hij⟩ := hF
  have nf : ∀ q ci nn ff fg, h.1 q = some (ci, nn, ff, fg) → ci ≠ 8 → q ≠ f := fun q ci nn ff fg a b c => by
    rw [c, c0] at a; cases a; exact b rfl
  have e2 := e 2 (by omega)
  have e3 := e 3 (by omega)
  refine ⟨⟨bf, bs, bp⟩, cf, ⟨fz1, by rw [e2]; exact (F sa bs (nf sa _ _ _ _ c1 (by decide))).trans c1⟩, ⟨fz2, by rw [e3]; exact (F pa bp (nf pa _ _ _ _ c2 (by decide))).trans c2⟩, fun k k0 k1 => ?_, fun p p0 p1 => ?_, by rw [e3]; exact hij⟩
  · rw [e2] at k1
    obtain ⟨q, fs, g, b, c, x⟩ := hst k k0 k1
    refine ⟨q, fs, g, b, (F q b (nf q _ _ _ _ c (by decide))).trans c, ?_⟩
    rw [show sX E k = sX D k from e _ (by omega), show sY E k = sY D k from e _ (by omega), show sV E k = sV D k from e _ (by omega)]
    exact x
  · rw [e3] at p1
    obtain ⟨q, g, ca, c, ⟨b1, b2⟩, c3, c4, hx⟩ := hsh p p0 p1
    rw [show pN E p = pN D p from e _ (by omega), show pC E p = pC D p from e _ (by omega), show pO E p = pO D p from e _ (by omega)]
    refine ⟨q, g, ca, c, ⟨b1, b2⟩, (F q b1 (nf q _ _ _ _ c3 (by decide))).trans c3, (F ca b2 (nf ca _ _ _ _ c4 (by decide))).trans c4, fun k k0 k1 => ?_⟩
    rw [show pX E p k = pX D p k from e _ (by omega), show pY E p k = pY D p k from e _ (by omega)]
    exact hx k k0 k1
theorem FLD.sm {h : AH} {B : Nat → Prop} {f sa pa : Nat} {gs gp : Int → Option Nat} {T : Option Nat} {D E : Int → Int} (hF : FLD h B f sa pa gs gp T D) (hD : VD D) (e : ∀ i, 0 ≤ i → i < 66 + 27 * D 3 → E i = D i) : FLD h B f sa pa gs gp T E := by
  obtain ⟨⟨bf, bs, bp⟩, c0, ⟨fz1, c1⟩, ⟨fz2, c2⟩, hst, hsh, hij⟩ := hF
  have d2 := hD.2.2.1
  have d3 := hD.2.2.2.1
  have e2 := e 2 (by omega) (by omega)
  have e3 := e 3 (by omega) (by omega)
  refine ⟨⟨bf, bs, bp⟩, by rw [e 0 (by omega) (by omega), e 1 (by omega) (by omega)]; exact c0, ⟨fz1, by rw [e2]; exact c1⟩, ⟨fz2, by rw [e3]; exact c2⟩, fun k k0 k1 => ?_, fun p p0 p1 => ?_, by rw [e3]; exact hij⟩
  · rw [e2] at k1
    rw [show sX E k = sX D k from e _ (by omega) (by omega), show sY E k = sY D k from e _ (by omega) (by omega), show sV E k = sV D k from e _ (by omega) (by omega)]
    exact hst k k0 k1
  · rw [e3] at p1
    obtain ⟨q, g, l⟩ := hsh p p0 p1
    have v := (hD.2.2.2.2.2 p p0 p1).2.1
    rw [show pN E p = pN D p from e _ (by omega) (by omega), show pC E p = pC D p from e _ (by omega) (by omega), show pO E p = pO D p from e _ (by omega) (by omega)]
    exact ⟨q, g, l.sm fun k k0 k1 => ⟨e _ (by omega) (by omega), e _ (by omega) (by omega)⟩⟩
theorem FLD.new {h : AH} {B : Nat → Prop} {f t t2 : Nat} {c1 c2 : Int → Int} (k0 : h.1 f = some (8, 5, am_L [2, 2, 0, 0, 0], am_G [none, none, some t, some t2, none])) (k1 : h.1 t = some (105, 0, c1, am_N)) (k2 : h.1 t2 = some (106, 0, c2, am_N)) (b0 : B f) (b1 : B t) (b2 : B t2) : FLD h B f t t2 am_N am_N none (gm_emp 2 2) :=
  ⟨⟨b0, b1, b2⟩, k0, ⟨_, k1⟩, ⟨_, k2⟩, fun k a b => absurd b (by show ¬ k < 0; omega), fun p a b => absurd b (by show ¬ p < 0; omega), fun p q a b => absurd b (by show ¬ p < 0; omega)⟩
theorem FLD.addS {h h1 : AH} {B : Nat → Prop} {f sa pa : Nat} {gs gp : Int → Option Nat} {T : Option Nat} {D : Int → Int} (hF : FLD h B f sa pa gs gp T D) (hD : VD D) (h2 : D 2 < 20) (F : ∀ q, B q → q ≠ f → h1.1 q = h.1 q) {t q9 : Nat} {x y v : Int} {gk : Int → Option Nat} {fz fs : Int → Int} (cf : h1.1 f = some (8, 5, am_L [D 0, D 1, 0, 0, 0], am_G [none, none, some t, some pa, T])) (ct : h1.1 t = some (105, D 2 + 1, fz, gk)) (hg : ∀ k, 0 ≤ k → k < D 2 → gk k = gs k) (h9 : gk (D 2) = some q9) (k9 : h1.1 q9 = some (100, 3, fs, am_N)) (es : fs 0 = x ∧ fs 1 = y ∧ fs 2 = v) (f1 : FR h h1 t) (f9 : FR h h1 q9) : FLD h1 (fun q => B q ∨ FR h h1 q) f t pa gk gp T (gm_addS D x y v) := by
  obtain ⟨⟨bf, bs, bp⟩, c0, ⟨fz1, c1⟩, ⟨fz2, c2⟩, hst, hsh, hij⟩ := id hF
  have d2 := hD.2.2.1
  have d3 := hD.2.2.2.1
  have o : ∀ i, i ≠ 2 → ¬ (6 + 3 * D 2 ≤ i ∧ i ≤ 8 + 3 * D 2) → gm_addS D x y v i = D i := fun i a b => gm_addS_o a b
  have e2 : gm_addS D x y v 2 = D 2 + 1 := gm_addS_2
  have e3 := o 3 (by omega) (by omega)
  have nf : ∀ q ci nn ff fg, h.1 q = some (ci, nn, ff, fg) → ci ≠ 8 → q ≠ f := fun q ci nn ff fg a b c => by
    rw [c, c0] at a; cases a; exact b rfl
  refine ⟨⟨Or.inl bf, Or.inr f1, Or.inl bp⟩, by rw [o 0 (by omega) (by omega), o 1 (by omega) (by omega)]; exact cf, ⟨fz, by rw [e2]; exact ct⟩, ⟨fz2, by rw [e3]; exact (F pa bp (nf pa _ _ _ _ c2 (by decide))).trans c2⟩, fun k k0 k1 => ?_, fun p p0 p1 => ?_, by rw [e3]; exact hij⟩
  · rw [e2] at k1
    by_cases c : k = D 2
    · subst c
      obtain ⟨s1, s2, s3⟩ := gm_addS_s (D := D) (x := x) (y := y) (v := v) d2.1
      rw [s1, s2, s3]
      exact ⟨q9, fs, h9, Or.inr f9, k9, es⟩
    · obtain ⟨q, fs', g, b, c3, z⟩ := hst k k0 (by omega)
      rw [show sX (gm_addS D x y v) k = sX D k from o _ (by omega) (by omega), show sY (gm_addS D x y v) k = sY D k from o _ (by omega) (by omega), show sV (gm_addS D x y v) k = sV D k from o _ (by omega) (by omega)]
      exact ⟨q, fs', (hg k k0 (by omega)).trans g, Or.inl b, (F q b (nf q _ _ _ _ c3 (by decide))).trans c3, z⟩
  · rw [e3] at p1
    obtain ⟨q, g, l⟩ := hsh p p0 p1
    rw [show pN (gm_addS D x y v) p = pN D p from o _ (by omega) (by omega), show pC (gm_addS D x y v) p = pC D p from o _ (by omega) (by omega), show pO (gm_addS D x y v) p = pO D p from o _ (by omega) (by omega)]
    exact ⟨q, g, (l.mv c0 (by decide) (fun q b n => F q b n) (fun q b => Or.inl b)).sm fun k k0 k1 => ⟨o _ (by omega) (by omega), o _ (by omega) (by omega)⟩⟩
section RFSS
variable {w : am_w} {h h1 : AH} {o bu r f sa pa sa' pa' bs : Nat} {gs gp gs' gp' : Int → Option Nat} {T T' : Option Nat} {D E D0 cm : Int → Int} {sc : Nat} {L : GL} {le : Int} {Hs : List GE} {Z Z' : List Int} {P : Nat → Prop} {c s : Nat}
theorem TXS.kf (k : TXS w h o bu D0 cm sc L le Hs Z) (f : KF h h1 P c s) (hP : ∀ q, P q → (o + 256 ≤ q ∧ q ≠ bu) ∧ ∀ ci n ff fg, h.1 q = some (ci, n, ff, fg) → ci ≠ 100 ∧ ci ≠ 110) : TXS w h1 o bu D0 cm sc L le Hs Z := by
  obtain ⟨⟨tx, l, e⟩, ⟨fb, c0, c1⟩, z⟩ := k
  exact ⟨⟨tx, l.kf f (fun q z => ⟨(hP q z).1.1, Or.inr (hP q z).2⟩), e⟩, ⟨fb, (f.1 bu l.2.2.1.2 (fun z => (hP bu z).1.2 rfl)).trans c0, c1⟩, z⟩
theorem TXS.top (k : TXS w h o bu D0 cm sc L le Hs Z) : o + 256 ≤ bu ∧ bu < h.2.1 := by
  obtain ⟨⟨tx, l, e⟩, -⟩ := k
  exact l.2.2.1
/-- the field, the text so far, numbers by chance -/
def RFS (w : am_w) (o bu r f sa pa bs : Nat) (gs gp : Int → Option Nat) (T : Option Nat) (h : AH) (D D0 cm : Int → Int) (sc : Nat) (L : GL) (le : Int) (Hs : List GE) (Z : List Int) : Prop := TXS w h o bu D0 cm sc L le Hs Z ∧ (RND h r ∧ o + 256 ≤ r ∧ r < h.2.1 ∧ r ≠ bu) ∧ (FLD h (LB o bu r r h) f sa pa gs gp T D ∧ FX D) ∧ TXW w h bs ∧ bs ≤ o
theorem LB.fr {q : Nat} (hb : o + 256 ≤ bu ∧ bu < h.2.1) (hr : r < h.2.1) (z : FR h h1 q) : LB o bu r r h1 q := ⟨⟨by have := z.1; omega, z.2⟩, by have := z.1; omega, by have := z.1; omega, by have := z.1; omega⟩
theorem RFS.fl (x : RFS w o bu r f sa pa bs gs gp T h D D0 cm sc L le Hs Z) (k : KF h h1 P c s) (hP : ∀ q, P q → MS f gp (D 3) q ∨ q = r) (hR : RND h1 r) (hF : FLD h1 (fun q => LB o bu r r h q ∨ FR h h1 q) f sa' pa' gs' gp' T' E) (hX : FX E) : RFS w o bu r f sa' pa' bs gs' gp' T' h1 E D0 cm sc L le Hs Z := by
  obtain ⟨xT, ⟨⟨sd, R⟩, r1, r2, r3⟩, ⟨xF, xX⟩, xW, xb⟩ := x
  have t := k.2.1.1
  have tb := xT.top
  have ms : ∀ q, MS f gp (D 3) q → LB o bu r r h q := fun q m => by
    rcases m with rfl | ⟨p, p0, p1, e⟩
    · exact xF.1.1
    · obtain ⟨a, g, ca, c, ⟨b, -⟩, -⟩ := xF.2.2.2.2.2.1 p p0 p1
      rw [e] at g; cases g; exact b
  refine ⟨xT.kf k fun q z => ?_, ⟨hR, r1, by omega, r3⟩, ⟨hF.loc (fun _ _ => rfl) (fun q b => b.elim (fun a => a.up t) fun a => LB.fr tb r2 a), hX⟩, xW.mv t (fun q hq => k.1 q (by omega) fun z => (hP q z).elim (fun m => by have := (ms q m).1.1; omega) fun e => by omega), xb⟩
  rcases hP q z with m | rfl
  · have m1 := ms q m
    refine ⟨⟨m1.1.1, m1.2.1⟩, fun ci nn ff fg e => ?_⟩
    rcases MS.k xF m with ⟨_, _, _, y⟩ | ⟨_, _, _, y⟩ <;> (rw [e] at y; cases y; decide)
  · refine ⟨⟨r1, r3⟩, fun ci nn ff fg e => ?_⟩
    rw [R] at e; cases e; decide
theorem RFS.kn (x : RFS w o bu r f sa pa bs gs gp T h D D0 cm sc L le Hs Z) (k : KF h h1 NO c s) : RFS w o bu r f sa pa bs gs gp T h1 D D0 cm sc L le Hs Z :=
  x.fl k (fun q z => z.elim) (x.2.1.1.mv (k.1 r x.2.1.2.2.1 id)) (x.2.2.1.1.loc (fun q b => k.1 q b.1.2 id) (fun q b => Or.inl b)) x.2.2.1.2
theorem RFS.kr (x : RFS w o bu r f sa pa bs gs gp T h D D0 cm sc L le Hs Z) (k : KF h h1 (fun q => q = r) c s) (hR : RND h1 r) : RFS w o bu r f sa pa bs gs gp T h1 D D0 cm sc L le Hs Z :=
  x.fl k (fun q z => Or.inr z) hR (x.2.2.1.1.loc (fun q b => k.1 q b.1.2 b.2.2.1) (fun q b => Or.inl b)) x.2.2.1.2
theorem RFS.wr (x : RFS w o bu r f sa pa bs gs gp T h D D0 cm sc L le Hs Z) (k : KF h h1 (fun q => (o ≤ q ∧ q < o + 256) ∨ q = bu) c s) (hT : TXS w h1 o bu D0 cm sc L le Hs Z') : RFS w o bu r f sa pa bs gs gp T h1 D D0 cm sc L le Hs Z' := by
  obtain ⟨xT, ⟨R, r1, r2, r3⟩, ⟨xF, xX⟩, xW, xb⟩ := x
  have t := k.2.1.1
  have tb := xT.top
  exact ⟨hT, ⟨R.mv (k.1 r r2 fun z => z.elim (fun a => by omega) r3), r1, by omega, r3⟩, ⟨xF.loc (fun q b => k.1 q b.1.2 fun z => z.elim (fun a => by have := b.1.1; omega) b.2.1) (fun q b => b.up t), xX⟩, xW.mv t (fun q hq => k.1 q (by omega) fun z => z.elim (fun a => by omega) fun a => by omega), xb⟩
theorem gx_atl {tx : Int → Int} {n : Int} (h : ∀ k, 0 ≤ k → k < n → tx k = gx_z Z k) (hn : (Z.length : Int) ≤ n) : ATL tx 0 Z := fun k c e => by
  have l := (List.getElem?_eq_some_iff.mp e).1
  rw [Int.zero_add, h k (by omega) (by omega)]
  unfold gx_z
  rw [List.getD_eq_getElem?_getD, show (k : Int).toNat = k by omega, e]
  rfl
/-- the text is loaded -/
theorem LC.load {tx : Int → Int} {bl z : Int} {Lo : Option GL} {j : Nat} (k : LC w h o bu D0 cm sc L tx bl le Hs) (hR : RDS Z D Lo j) (hx : ATL tx 0 Z) (hl : (Z.length : Int) ≤ 800) (hb : (Z.length : Int) ≤ bl) (e : (((0 ≤ (Z.length : Int) ∧ (Z.length : Int) ≤ bl) ∧ ∃ kd st vl, TKA kd st vl (gm_to tx Z.length 801 0) ∧ ((∃ e at', rD kd st vl = .inl (e, at') ∧ z = e ∧ CCS h1 o (o + 1) (o + 2) (o + 26) (o + 50) (o + 52) (o + 59) (o + 62) D0 cm sc L tx 0 at' Hs) ∨ (∃ D' L' cm' sc', rD kd st vl = .inr (D', L') ∧ z = D' 3 ∧ (sc' < o ∨ h.2.1 ≤ sc') ∧ CCS h1 o (o + 1) (o + 2) (o + 26) (o + 50) (o + 52) (o + 59) (o + 62) D' cm' sc' (gm_cod L') tx 0 (-1) ((D0, cm, sc, L) :: Hs.take 7))) ∧ am_go 2 h h1 o) ∨ ∃ k, ((¬ (0 ≤ (Z.length : Int) ∧ (Z.length : Int) ≤ bl) ∧ (Sum.inr k : Int ⊕ Nat) = .inr 0) ∧ h1 = gm_thr h) ∧ z = gx_thr k)) : z = D 3 ∧ (∃ cm' sc', LC w h1 o bu D cm' sc' (gm_cod Lo) tx 0 (-1) ((D0, cm, sc, L) :: Hs.take 7)) ∧ KF h h1 (fun q => (o ≤ q ∧ q < o + 256) ∨ q = bu) 2 1600 := by
  rcases e with ⟨-, kd, st, vl, t, hh, g⟩ | ⟨_, ⟨⟨a, -⟩, -⟩, -⟩
  · have q := hR.rd hx hl t
    rcases hh with ⟨e, a, b, -⟩ | ⟨D', L', cm', sc', b, e1, s1, C⟩
    · rw [q] at b; cases b
    · rw [q] at b
      cases b
      refine ⟨e1, ⟨cm', sc', k.go C g ⟨?_, fun e he => ?_⟩⟩, g.kf.up (fun q _ z => Or.inl z) (by omega) (by omega)⟩
      · have := k.2.2.1
        have := k.1.1.2.2.2.2.2.2.2
        omega
      · exact (List.mem_cons.mp he).elim (fun z => by rw [z]; exact k.2.2.2.1) (fun z => k.2.2.2.2 e (List.mem_of_mem_take z))
  · exact absurd ⟨by omega, hb⟩ a
end RFSS

set_option maxRecDepth 4000 in
set_option maxHeartbeats 1000000 in
theorem c_L_loadText {w : am_w} {h : AH} {o bu : Nat} {D cm : Int → Int} {sc : Nat} {L : GL} {le : Int} {Hs : List GE} {Z : List Int} (hT : TXS w h o bu D cm sc L le Hs Z) {E : Int → Int} {Lo : Option GL} {j : Nat} (hR : RDS Z E Lo j)  : AE w m_L_loadText 24 [vr o, vr bu] h (am_int (fun z h1 => z = E 3 ∧ (∃ tx cm' sc', LC w h1 o bu E cm' sc' (gm_cod Lo) tx 0 (-1) ((D, cm, sc, L) :: Hs.take 7)) ∧ KF h h1 (fun q => (o ≤ q ∧ q < o + 256) ∨ q = bu) 2 1600)) := by
  refine AE.of wf_L_loadText (Nat.le_of_ble_eq_true rfl) (am_ok_i) ?_
  obtain ⟨⟨tx, hL, htx⟩, ⟨fb, d0, e0, ew⟩, hz, hl9⟩ := hT
  obtain ⟨C0, hP, ⟨b0, b1⟩, ns9, nh9⟩ := id hL
  have e8 := C0.1.2.2.2.2.2.2.2
  refine q_blk (lv2 := [(0, vr o), (1, vr bu)]) (st2 := [vi 0, vr bu]) kL_loadText_0 rfl ?_
  refine q_ia eL_loadText_2 d0 (by decide) (by omega) (by omega) (z := (Z.length : Int)) e0 ?_
  refine q_blk (lv2 := [(0, vr o), (1, vr bu), (2, vi (Z.length : Int))]) (st2 := [vi 20, vi (Z.length : Int)]) kL_loadText_3 rfl ?_
  refine AQ.of (AS.irem eL_loadText_7 (by first | assumption | exact ⟨by omega, by omega⟩ | exact ⟨by decide, by decide⟩) ⟨by decide, by decide⟩ (by omega)) ?_
  rw [show (Int.tmod (Z.length : Int) 20) = ((Z.length : Int) % 20) from Int.tmod_eq_emod_of_nonneg (by omega)]
  refine AQ.if_le (tgt := 16) eL_loadText_8 (by decide) (by first | assumption | exact ⟨by omega, by omega⟩ | exact ⟨by decide, by decide⟩) (fun br1 => ?_) (fun br1 => ?_)
  · skip
    refine q_blk (lv2 := [(0, vr o), (1, vr bu), (2, vi (Z.length : Int))]) (st2 := [vi 0, vi 0, vr bu]) kL_loadText_16 rfl ?_
    refine q_is eL_loadText_19 d0 (by omega) (by omega) (fun h2 e3 => ?_)
    have k4 := am_at e3
    have e3u : h2.2.1 = h.2.1 := congrArg Prod.fst (am_z e3)
    have e3v : h2.2.2 = h.2.2 := congrArg Prod.snd (am_z e3)
    have F5 : ∀ q, q < h.2.1 → ¬ (fun q => (o ≤ q ∧ q < o + 256) ∨ q = bu) q → h2.1 q = h.1 q := fun q q0 q1 => (am_ne e3 q (fun c => q1 (Or.inr c))).trans ((fun _ _ _ => rfl) q q0 q1)
    have C6 := hL.wb e3
    refine q_blk (lv2 := [(0, vr o), (1, vr bu), (2, vi (Z.length : Int))]) (st2 := [vi (Z.length : Int), vr o]) kL_loadText_20 rfl ?_
    refine AQ.callWi (av := [vr o, vi (Z.length : Int)]) (st := []) (c_L_load (c_X8_load C6.1 C6.2.1.1 ⟨by omega, by omega⟩) C6.1.ob (fun k h1 q => by obtain ⟨_, e⟩ := q.1; cases e; rfl)) lkw_L_load (by decide) rfl rfl (Nat.le_of_ble_eq_true rfl) eL_loadText_22 (fun z7 h8 e9 => ?_)
    obtain ⟨z7e, z7c, z7f, ⟨z7a, z7b⟩, z7g, z7d⟩ := C6.load hR (gx_atl htx (by omega)) (by omega) (by omega) e9
    have F10 : ∀ q, q < h.2.1 → ¬ (fun q => (o ≤ q ∧ q < o + 256) ∨ q = bu) q → h8.1 q = h.1 q := fun q q0 q1 => (z7f q (by omega) q1).trans (F5 q q0 q1)
    exact q_ri rfl eL_loadText_25 ⟨z7, rfl, z7e, ⟨_, z7c⟩, ⟨F10, ⟨by omega, by omega⟩, by omega, by omega⟩⟩
  · skip
    refine q_blk (lv2 := [(0, vr o), (1, vr bu), (2, vi (Z.length : Int))]) (st2 := [vr bu, vr o]) kL_loadText_11 rfl ?_
    refine AQ.callSv (av := [vr o, vr bu]) (st := []) (c_L_flush hL (W := gx_wk Z ((Z.length : Int) / 20)) (ln := (Z.length : Int)) ⟨_, d0, e0, ew⟩ (fun i _ _ => by have := gx_wk_r hz ((Z.length : Int) / 20) i; exact ⟨by omega, by omega⟩) (by omega)) lk_RL_7 (by decide) rfl rfl (Nat.le_of_ble_eq_true rfl) eL_loadText_13 (fun h13 e12 => ?_)
    obtain ⟨⟨g14L, g14B⟩, g14f, ⟨g14a, g14b⟩, g14c, g14d⟩ := e12
    obtain ⟨g14y, g14x, -⟩ := g14B
    have F15 : ∀ q, q < h.2.1 → ¬ (fun q => (o ≤ q ∧ q < o + 256) ∨ q = bu) q → h13.1 q = h.1 q := fun q q0 q1 => (g14f q (by omega) q1).trans ((fun _ _ _ => rfl) q q0 q1)
    refine q_blk (lv2 := [(0, vr o), (1, vr bu), (2, vi (Z.length : Int))]) (st2 := [vi 0, vi 0, vr bu]) kL_loadText_16 rfl ?_
    refine q_is eL_loadText_19 g14x (by omega) (by omega) (fun h16 e17 => ?_)
    have k18 := am_at e17
    have e17u : h16.2.1 = h13.2.1 := congrArg Prod.fst (am_z e17)
    have e17v : h16.2.2 = h13.2.2 := congrArg Prod.snd (am_z e17)
    have F19 : ∀ q, q < h.2.1 → ¬ (fun q => (o ≤ q ∧ q < o + 256) ∨ q = bu) q → h16.1 q = h.1 q := fun q q0 q1 => (am_ne e17 q (fun c => q1 (Or.inr c))).trans (F15 q q0 q1)
    have C20 := g14L.wb e17
    refine q_blk (lv2 := [(0, vr o), (1, vr bu), (2, vi (Z.length : Int))]) (st2 := [vi (Z.length : Int), vr o]) kL_loadText_20 rfl ?_
    refine AQ.callWi (av := [vr o, vi (Z.length : Int)]) (st := []) (c_L_load (c_X8_load C20.1 C20.2.1.1 ⟨by omega, by omega⟩) C20.1.ob (fun k h1 q => by obtain ⟨_, e⟩ := q.1; cases e; rfl)) lkw_L_load (by decide) rfl rfl (Nat.le_of_ble_eq_true rfl) eL_loadText_22 (fun z21 h22 e23 => ?_)
    obtain ⟨z21e, z21c, z21f, ⟨z21a, z21b⟩, z21g, z21d⟩ := C20.load hR (gx_atl (gx_pw5 hz htx) (by omega)) (by omega) (by omega) e23
    have F24 : ∀ q, q < h.2.1 → ¬ (fun q => (o ≤ q ∧ q < o + 256) ∨ q = bu) q → h22.1 q = h.1 q := fun q q0 q1 => (z21f q (by omega) q1).trans (F19 q q0 q1)
    exact q_ri rfl eL_loadText_25 ⟨z21, rfl, z21e, ⟨_, z21c⟩, ⟨F24, ⟨by omega, by omega⟩, by omega, by omega⟩⟩
